theorem aclI {n c K : Nat} {ad : Nat → Nat} {M : Mm} (h : Zr n M) (hc : n ≤ c) : acl ad M c (0, K, []) = (K, .inl (fun _ => 0)) := by
  show (K, Sum.inl (M.1 c)) = _
  rw [h.i hc]
theorem aclJ {n c K : Nat} {ad : Nat → Nat} {M : Mm} (h : Zr n M) (hc : n ≤ c) : acl ad M c (1, K, []) = (K, .inr (.inl (fun _ => 0))) := by
  show (K, Sum.inr (Sum.inl (M.2 c))) = _
  rw [h.j hc]
theorem aclZ {n c K : Nat} {ad : Nat → Nat} {M : Mm} (h : Zr n M) (hc : n ≤ c) : acl ad M c (2, K, []) = (K, .inl (fun _ => 0)) := by
  show (K, Sum.inl (M.1 c)) = _
  rw [h.i hc]
theorem tg_1424 : Cond.methodLink RX10 1 Lib.objectInit ∈ tblG := inG_i 1424 (by decide +kernel) (by decide +kernel)
theorem tg_1425 : Cond.classLink RX10 30 "[[I" ∈ tblG := inG_i 1425 (by decide +kernel) (by decide +kernel)
theorem tg_1427 : Cond.classLink RX10 65 "[[J" ∈ tblG := inG_i 1427 (by decide +kernel) (by decide +kernel)
theorem tg_1429 : Cond.classLink RX10 107 "[[Z" ∈ tblG := inG_i 1429 (by decide +kernel) (by decide +kernel)
def shk_0 : List Shp := [.inr (8, [(4, 0), (4, 0), (0, 0), (4, 0), (4, 0), (4, 0), (4, 0), (4, 0), (4, 0), (4, 0), (0, 0)])]
theorem os_0 : okS shk_0 1 = true := by decide +kernel
def shk_1 : List Shp := shk_0 ++ [.inr (7, [(4, 0), (4, 0), (0, 0), (0, 0), (0, 0), (0, 0), (0, 0)])]
theorem os_1 : okS shk_1 2 = true := by decide +kernel
def shk_2 : List Shp := shk_1 ++ [.inl (0, 500, [])]
theorem os_2 : okS shk_2 3 = true := by decide +kernel
def shk_3 : List Shp := shk_2.set 1 (.inr (7, [(3, 2), (4, 0), (0, 0), (0, 0), (0, 0), (0, 0), (0, 0)]))
theorem os_3 : okS shk_3 3 = true := by decide +kernel
def shk_4 : List Shp := shk_3 ++ [.inr (6, [(4, 0), (4, 0), (4, 0), (4, 0), (4, 0), (4, 0), (4, 0), (0, 0), (0, 0), (0, 0)])]
theorem os_4 : okS shk_4 4 = true := by decide +kernel
def shk_5 : List Shp := shk_4 ++ [.inl (1, 10, [])]
theorem os_5 : okS shk_5 5 = true := by decide +kernel
def shk_6 : List Shp := shk_5.set 3 (.inr (6, [(3, 4), (4, 0), (4, 0), (4, 0), (4, 0), (4, 0), (4, 0), (0, 0), (0, 0), (0, 0)]))
theorem os_6 : okS shk_6 5 = true := by decide +kernel
def shk_7 : List Shp := shk_6 ++ [.inl (1, 10, [])]
theorem os_7 : okS shk_7 6 = true := by decide +kernel
def shk_8 : List Shp := shk_7.set 3 (.inr (6, [(3, 4), (3, 5), (4, 0), (4, 0), (4, 0), (4, 0), (4, 0), (0, 0), (0, 0), (0, 0)]))
theorem os_8 : okS shk_8 6 = true := by decide +kernel
def shk_9 : List Shp := shk_8 ++ [.inl (0, 48, [])]
theorem os_9 : okS shk_9 7 = true := by decide +kernel
def shk_10 : List Shp := shk_9.set 3 (.inr (6, [(3, 4), (3, 5), (3, 6), (4, 0), (4, 0), (4, 0), (4, 0), (0, 0), (0, 0), (0, 0)]))
theorem os_10 : okS shk_10 7 = true := by decide +kernel
def shk_11 : List Shp := shk_10 ++ [.inl (0, 6, [])]
theorem os_11 : okS shk_11 8 = true := by decide +kernel
def shk_12 : List Shp := shk_11.set 3 (.inr (6, [(3, 4), (3, 5), (3, 6), (3, 7), (4, 0), (4, 0), (4, 0), (0, 0), (0, 0), (0, 0)]))
theorem os_12 : okS shk_12 8 = true := by decide +kernel
def shk_13 : List Shp := shk_12 ++ [.inl (0, 10, [])]
theorem os_13 : okS shk_13 9 = true := by decide +kernel
def shk_14 : List Shp := shk_13.set 3 (.inr (6, [(3, 4), (3, 5), (3, 6), (3, 7), (3, 8), (4, 0), (4, 0), (0, 0), (0, 0), (0, 0)]))
theorem os_14 : okS shk_14 9 = true := by decide +kernel
def shk_15 : List Shp := shk_14 ++ [.inl (1, 16, [])]
theorem os_15 : okS shk_15 10 = true := by decide +kernel
def shk_16 : List Shp := shk_15.set 3 (.inr (6, [(3, 4), (3, 5), (3, 6), (3, 7), (3, 8), (3, 9), (4, 0), (0, 0), (0, 0), (0, 0)]))
theorem os_16 : okS shk_16 10 = true := by decide +kernel
def shk_17 : List Shp := shk_16 ++ [.inl (0, 16, [])]
theorem os_17 : okS shk_17 11 = true := by decide +kernel
def shk_18 : List Shp := shk_17.set 3 (.inr (6, [(3, 4), (3, 5), (3, 6), (3, 7), (3, 8), (3, 9), (3, 10), (0, 0), (0, 0), (0, 0)]))
theorem os_18 : okS shk_18 11 = true := by decide +kernel
set_option maxHeartbeats 8000000 in
set_option maxRecDepth 100000 in
theorem n_X7_init_3 {l : Launch} {E : Ev} {a : Nat} {M : Mm} (hH : eH E = shk_4) (h_3 : eA E 3 = a) (hZ : Zr 4 M) : MetN l yX7_init cX7_init 1 1 7 116 E [.ref a] M 4 shk_18 M := by
  refine MetK.of (by decide +kernel) (Nat.le_of_ble_eq_true rfl) ?_
  intro p e s m below meth c C hr hnm
  refine G.sub [0] (L' := [(0, .ref a)]) rfl ?_
  have sm : Sm E E 4 := Sm.rf
  refine G.aload_n C 0 dX7_init_0 rfl rfl ?_
  refine G.objInit C tg_135 tg_122 tg_123 ⟨(Nat.le_of_ble_eq_true rfl), (Nat.le_of_ble_eq_true rfl)⟩ (Nat.le_of_ble_eq_true rfl) dX7_init_1 ?_
  refine G.aload_n C 0 dX7_init_4 rfl rfl ?_
  refine G.bipush (v := (10 : Int32)) C dX7_init_5 (by decide) ?_
  refine G.kJ (N := 10) C hH os_4 tg_193 hZ (by decide) (by decide) (by decide) (Nat.le_of_ble_eq_true rfl) (Nat.le_of_ble_eq_true rfl) dX7_init_7 (fun E1 q1 C hH sm1 h_4 => ?_)
  have hH : eH E1 = shk_5 := hH
  have sm := Sm.tr sm sm1 (Nat.le_of_ble_eq_true rfl)
  have h_3 := Sm.at sm1 (Nat.le_of_ble_eq_true rfl) h_3
  have hZ := Zr.up hZ (k := 5) (Nat.le_of_ble_eq_true rfl)
  refine G.kP (n := 5) (q := 3) (k := 0) (t := 4) (w := 0) (sh2 := shk_6) (fs := [(4, 0), (4, 0), (4, 0), (4, 0), (4, 0), (4, 0), (4, 0), (0, 0), (0, 0), (0, 0)]) C hH k_X7 (by decide +kernel) rfl (by decide) tg_136 rfl hnm rfl rfl rfl h_4 h_3 rfl dX7_init_9 (fun E2 C hH sm1 => ?_)
  have sm := Sm.tr sm sm1 (Nat.le_of_ble_eq_true rfl)
  have h_3 := Sm.at sm1 (Nat.le_of_ble_eq_true rfl) h_3
  refine G.aload_n C 0 dX7_init_12 rfl rfl ?_
  refine G.bipush (v := (10 : Int32)) C dX7_init_13 (by decide) ?_
  refine G.kJ (N := 10) C hH os_6 tg_193 hZ (by decide) (by decide) (by decide) (Nat.le_of_ble_eq_true rfl) (Nat.le_of_ble_eq_true rfl) dX7_init_15 (fun E3 q3 C hH sm1 h_5 => ?_)
  have hH : eH E3 = shk_7 := hH
  have sm := Sm.tr sm sm1 (Nat.le_of_ble_eq_true rfl)
  have h_3 := Sm.at sm1 (Nat.le_of_ble_eq_true rfl) h_3
  have hZ := Zr.up hZ (k := 6) (Nat.le_of_ble_eq_true rfl)
  refine G.kP (n := 6) (q := 3) (k := 1) (t := 5) (w := 0) (sh2 := shk_8) (fs := [(3, 4), (4, 0), (4, 0), (4, 0), (4, 0), (4, 0), (4, 0), (0, 0), (0, 0), (0, 0)]) C hH k_X7 (by decide +kernel) rfl (by decide) tg_138 rfl hnm rfl rfl rfl h_5 h_3 rfl dX7_init_17 (fun E4 C hH sm1 => ?_)
  have sm := Sm.tr sm sm1 (Nat.le_of_ble_eq_true rfl)
  have h_3 := Sm.at sm1 (Nat.le_of_ble_eq_true rfl) h_3
  refine G.aload_n C 0 dX7_init_20 rfl rfl ?_
  refine G.bipush (v := (48 : Int32)) C dX7_init_21 (by decide) ?_
  refine G.kI (N := 48) C hH os_8 tg_192 hZ (by decide) (by decide) (by decide) (Nat.le_of_ble_eq_true rfl) (Nat.le_of_ble_eq_true rfl) dX7_init_23 (fun E5 q5 C hH sm1 h_6 => ?_)
  have hH : eH E5 = shk_9 := hH
  have sm := Sm.tr sm sm1 (Nat.le_of_ble_eq_true rfl)
  have h_3 := Sm.at sm1 (Nat.le_of_ble_eq_true rfl) h_3
  have hZ := Zr.up hZ (k := 7) (Nat.le_of_ble_eq_true rfl)
  refine G.kP (n := 7) (q := 3) (k := 2) (t := 6) (w := 0) (sh2 := shk_10) (fs := [(3, 4), (3, 5), (4, 0), (4, 0), (4, 0), (4, 0), (4, 0), (0, 0), (0, 0), (0, 0)]) C hH k_X7 (by decide +kernel) rfl (by decide) tg_140 rfl hnm rfl rfl rfl h_6 h_3 rfl dX7_init_25 (fun E6 C hH sm1 => ?_)
  have sm := Sm.tr sm sm1 (Nat.le_of_ble_eq_true rfl)
  have h_3 := Sm.at sm1 (Nat.le_of_ble_eq_true rfl) h_3
  refine G.aload_n C 0 dX7_init_28 rfl rfl ?_
  refine G.bipush (v := (6 : Int32)) C dX7_init_29 (by decide) ?_
  refine G.kI (N := 6) C hH os_10 tg_192 hZ (by decide) (by decide) (by decide) (Nat.le_of_ble_eq_true rfl) (Nat.le_of_ble_eq_true rfl) dX7_init_31 (fun E7 q7 C hH sm1 h_7 => ?_)
  have hH : eH E7 = shk_11 := hH
  have sm := Sm.tr sm sm1 (Nat.le_of_ble_eq_true rfl)
  have h_3 := Sm.at sm1 (Nat.le_of_ble_eq_true rfl) h_3
  have hZ := Zr.up hZ (k := 8) (Nat.le_of_ble_eq_true rfl)
  refine G.kP (n := 8) (q := 3) (k := 3) (t := 7) (w := 0) (sh2 := shk_12) (fs := [(3, 4), (3, 5), (3, 6), (4, 0), (4, 0), (4, 0), (4, 0), (0, 0), (0, 0), (0, 0)]) C hH k_X7 (by decide +kernel) rfl (by decide) tg_142 rfl hnm rfl rfl rfl h_7 h_3 rfl dX7_init_33 (fun E8 C hH sm1 => ?_)
  have sm := Sm.tr sm sm1 (Nat.le_of_ble_eq_true rfl)
  have h_3 := Sm.at sm1 (Nat.le_of_ble_eq_true rfl) h_3
  refine G.aload_n C 0 dX7_init_36 rfl rfl ?_
  refine G.bipush (v := (10 : Int32)) C dX7_init_37 (by decide) ?_
  refine G.kI (N := 10) C hH os_12 tg_192 hZ (by decide) (by decide) (by decide) (Nat.le_of_ble_eq_true rfl) (Nat.le_of_ble_eq_true rfl) dX7_init_39 (fun E9 q9 C hH sm1 h_8 => ?_)
  have hH : eH E9 = shk_13 := hH
  have sm := Sm.tr sm sm1 (Nat.le_of_ble_eq_true rfl)
  have h_3 := Sm.at sm1 (Nat.le_of_ble_eq_true rfl) h_3
  have hZ := Zr.up hZ (k := 9) (Nat.le_of_ble_eq_true rfl)
  refine G.kP (n := 9) (q := 3) (k := 4) (t := 8) (w := 0) (sh2 := shk_14) (fs := [(3, 4), (3, 5), (3, 6), (3, 7), (4, 0), (4, 0), (4, 0), (0, 0), (0, 0), (0, 0)]) C hH k_X7 (by decide +kernel) rfl (by decide) tg_145 rfl hnm rfl rfl rfl h_8 h_3 rfl dX7_init_41 (fun E10 C hH sm1 => ?_)
  have sm := Sm.tr sm sm1 (Nat.le_of_ble_eq_true rfl)
  have h_3 := Sm.at sm1 (Nat.le_of_ble_eq_true rfl) h_3
  refine G.aload_n C 0 dX7_init_44 rfl rfl ?_
  refine G.bipush (v := (16 : Int32)) C dX7_init_45 (by decide) ?_
  refine G.kJ (N := 16) C hH os_14 tg_193 hZ (by decide) (by decide) (by decide) (Nat.le_of_ble_eq_true rfl) (Nat.le_of_ble_eq_true rfl) dX7_init_47 (fun E11 q11 C hH sm1 h_9 => ?_)
  have hH : eH E11 = shk_15 := hH
  have sm := Sm.tr sm sm1 (Nat.le_of_ble_eq_true rfl)
  have h_3 := Sm.at sm1 (Nat.le_of_ble_eq_true rfl) h_3
  have hZ := Zr.up hZ (k := 10) (Nat.le_of_ble_eq_true rfl)
  refine G.kP (n := 10) (q := 3) (k := 5) (t := 9) (w := 0) (sh2 := shk_16) (fs := [(3, 4), (3, 5), (3, 6), (3, 7), (3, 8), (4, 0), (4, 0), (0, 0), (0, 0), (0, 0)]) C hH k_X7 (by decide +kernel) rfl (by decide) tg_148 rfl hnm rfl rfl rfl h_9 h_3 rfl dX7_init_49 (fun E12 C hH sm1 => ?_)
  have sm := Sm.tr sm sm1 (Nat.le_of_ble_eq_true rfl)
  have h_3 := Sm.at sm1 (Nat.le_of_ble_eq_true rfl) h_3
  refine G.aload_n C 0 dX7_init_52 rfl rfl ?_
  refine G.bipush (v := (16 : Int32)) C dX7_init_53 (by decide) ?_
  refine G.kI (N := 16) C hH os_16 tg_192 hZ (by decide) (by decide) (by decide) (Nat.le_of_ble_eq_true rfl) (Nat.le_of_ble_eq_true rfl) dX7_init_55 (fun E13 q13 C hH sm1 h_10 => ?_)
  have hH : eH E13 = shk_17 := hH
  have sm := Sm.tr sm sm1 (Nat.le_of_ble_eq_true rfl)
  have h_3 := Sm.at sm1 (Nat.le_of_ble_eq_true rfl) h_3
  have hZ := Zr.up hZ (k := 11) (Nat.le_of_ble_eq_true rfl)
  refine G.kP (n := 11) (q := 3) (k := 6) (t := 10) (w := 0) (sh2 := shk_18) (fs := [(3, 4), (3, 5), (3, 6), (3, 7), (3, 8), (3, 9), (4, 0), (0, 0), (0, 0), (0, 0)]) C hH k_X7 (by decide +kernel) rfl (by decide) tg_153 rfl hnm rfl rfl rfl h_10 h_3 rfl dX7_init_57 (fun E14 C hH sm1 => ?_)
  have sm := Sm.tr sm sm1 (Nat.le_of_ble_eq_true rfl)
  have h_3 := Sm.at sm1 (Nat.le_of_ble_eq_true rfl) h_3
  exact G.kR C sm hH os_18 hr dX7_init_60
def shk_19 : List Shp := shk_18.set 1 (.inr (7, [(3, 2), (3, 3), (0, 0), (0, 0), (0, 0), (0, 0), (0, 0)]))
theorem os_19 : okS shk_19 11 = true := by decide +kernel
def mk_0 (M : Mm) : Mm := wI M 1 2 (0 : Int32)
theorem zk_0 {M : Mm} {n : Nat} (hn : 11 ≤ n) (h : Zr n M) : Zr n (mk_0 M) := Zr.w h (by omega)
def mk_1 (M : Mm) : Mm := wI (mk_0 M) 1 3 (0 : Int32)
theorem zk_1 {M : Mm} {n : Nat} (hn : 11 ≤ n) (h : Zr n M) : Zr n (mk_1 M) := Zr.w (zk_0 hn h) (by omega)
def mk_2 (M : Mm) : Mm := wI (mk_1 M) 1 4 (0 : Int32)
theorem zk_2 {M : Mm} {n : Nat} (hn : 11 ≤ n) (h : Zr n M) : Zr n (mk_2 M) := Zr.w (zk_1 hn h) (by omega)
def mk_3 (M : Mm) : Mm := wI (mk_2 M) 1 5 (0 : Int32)
theorem zk_3 {M : Mm} {n : Nat} (hn : 11 ≤ n) (h : Zr n M) : Zr n (mk_3 M) := Zr.w (zk_2 hn h) (by omega)
def mk_4 (M : Mm) : Mm := wI (mk_3 M) 1 6 (-1 : Int32)
theorem zk_4 {M : Mm} {n : Nat} (hn : 11 ≤ n) (h : Zr n M) : Zr n (mk_4 M) := Zr.w (zk_3 hn h) (by omega)
set_option maxHeartbeats 8000000 in
set_option maxRecDepth 100000 in
theorem n_X8_init_1 {l : Launch} {E : Ev} {a : Nat} {M : Mm} (hH : eH E = shk_1) (h_1 : eA E 1 = a) (hZ : Zr 2 M) : MetN l yX8_init cX8_init 1 2 9 626 E [.ref a] M 2 shk_19 (mk_4 M) := by
  refine MetK.of (by decide +kernel) (Nat.le_of_ble_eq_true rfl) ?_
  intro p e s m below meth c C hr hnm
  refine G.sub [0] (L' := [(0, .ref a)]) rfl ?_
  have sm : Sm E E 2 := Sm.rf
  refine G.aload_n C 0 dX8_init_0 rfl rfl ?_
  refine G.objInit C tg_129 tg_122 tg_123 ⟨(Nat.le_of_ble_eq_true rfl), (Nat.le_of_ble_eq_true rfl)⟩ (Nat.le_of_ble_eq_true rfl) dX8_init_1 ?_
  refine G.aload_n C 0 dX8_init_4 rfl rfl ?_
  refine G.sipush (v := (500 : Int32)) C dX8_init_5 (by decide) ?_
  refine G.kI (N := 500) C hH os_1 tg_192 hZ (by decide) (by decide) (by decide) (Nat.le_of_ble_eq_true rfl) (Nat.le_of_ble_eq_true rfl) dX8_init_8 (fun E1 q1 C hH sm1 h_2 => ?_)
  have hH : eH E1 = shk_2 := hH
  have sm := Sm.tr sm sm1 (Nat.le_of_ble_eq_true rfl)
  have h_1 := Sm.at sm1 (Nat.le_of_ble_eq_true rfl) h_1
  have hZ := Zr.up hZ (k := 3) (Nat.le_of_ble_eq_true rfl)
  refine G.kP (n := 3) (q := 1) (k := 0) (t := 2) (w := 0) (sh2 := shk_3) (fs := [(4, 0), (4, 0), (0, 0), (0, 0), (0, 0), (0, 0), (0, 0)]) C hH k_X8 (by decide +kernel) rfl (by decide) tg_194 rfl hnm rfl rfl rfl h_2 h_1 rfl dX8_init_10 (fun E2 C hH sm1 => ?_)
  have sm := Sm.tr sm sm1 (Nat.le_of_ble_eq_true rfl)
  have h_1 := Sm.at sm1 (Nat.le_of_ble_eq_true rfl) h_1
  refine G.aload_n C 0 dX8_init_13 rfl rfl ?_
  refine G.kO C hH os_3 k_X7 [(4, 0), (4, 0), (4, 0), (4, 0), (4, 0), (4, 0), (4, 0), (0, 0), (0, 0), (0, 0)] tg_130 tg_131 tg_92 hZ (by decide +kernel) (by decide +kernel) (Nat.le_of_ble_eq_true rfl) (Nat.le_of_ble_eq_true rfl) dX8_init_14 (fun E3 q3 C hH sm1 h_3 => ?_)
  have hH : eH E3 = shk_4 := hH
  have sm := Sm.tr sm sm1 (Nat.le_of_ble_eq_true rfl)
  have h_1 := Sm.at sm1 (Nat.le_of_ble_eq_true rfl) h_1
  have hZ := Zr.up hZ (k := 4) (Nat.le_of_ble_eq_true rfl)
  refine G.dup C dX8_init_17 rfl ?_
  refine G.kC (rest := [.ref q3, .ref a]) C (n_X7_init_3 hH h_3 hZ) hH os_4 os_18 (Nat.le_of_ble_eq_true rfl) ⟨tg_134, tg_92, ok_X7_init, (Nat.le_of_ble_eq_true rfl), (Nat.le_of_ble_eq_true rfl)⟩ tg_133 rfl (Or.inr ⟨_, tw_132⟩) (Nat.le_of_ble_eq_true rfl) dX8_init_18 ⟨(Nat.le_of_ble_eq_true rfl), (Nat.le_of_ble_eq_true rfl)⟩ (fun E4 C hH sm1 => ?_)
  have sm := Sm.tr sm sm1 (Nat.le_of_ble_eq_true rfl)
  have h_1 := Sm.at sm1 (Nat.le_of_ble_eq_true rfl) h_1
  have h_3 := Sm.at sm1 (Nat.le_of_ble_eq_true rfl) h_3
  have hZ := Zr.up hZ (k := 11) (Nat.le_of_ble_eq_true rfl)
  refine G.kP (n := 11) (q := 1) (k := 1) (t := 3) (w := 0) (sh2 := shk_19) (fs := [(3, 2), (4, 0), (0, 0), (0, 0), (0, 0), (0, 0), (0, 0)]) C hH k_X8 (by decide +kernel) rfl (by decide) tg_195 rfl hnm rfl rfl rfl h_3 h_1 rfl dX8_init_21 (fun E5 C hH sm1 => ?_)
  have sm := Sm.tr sm sm1 (Nat.le_of_ble_eq_true rfl)
  have h_1 := Sm.at sm1 (Nat.le_of_ble_eq_true rfl) h_1
  refine G.aload_n C 0 dX8_init_24 rfl rfl ?_
  refine G.iconst (v := (0 : Int32)) C dX8_init_25 (by decide) ?_
  refine G.putIa (q := 1) (k := 2) (fs := [(3, 2), (3, 3), (0, 0), (0, 0), (0, 0), (0, 0), (0, 0)]) (M' := (mk_0 M)) C hH h_1 k_X8 (by decide +kernel) rfl (by decide) tg_197 rfl rfl dX8_init_26 rfl ?_
  have hZ : Zr 11 (mk_0 M) := Zr.w hZ (Nat.le_of_ble_eq_true rfl)
  refine G.aload_n C 0 dX8_init_29 rfl rfl ?_
  refine G.iconst (v := (0 : Int32)) C dX8_init_30 (by decide) ?_
  refine G.putIa (q := 1) (k := 3) (fs := [(3, 2), (3, 3), (0, 0), (0, 0), (0, 0), (0, 0), (0, 0)]) (M' := (mk_1 M)) C hH h_1 k_X8 (by decide +kernel) rfl (by decide) tg_199 rfl rfl dX8_init_31 rfl ?_
  have hZ : Zr 11 (mk_1 M) := Zr.w hZ (Nat.le_of_ble_eq_true rfl)
  refine G.aload_n C 0 dX8_init_34 rfl rfl ?_
  refine G.iconst (v := (0 : Int32)) C dX8_init_35 (by decide) ?_
  refine G.putIa (q := 1) (k := 4) (fs := [(3, 2), (3, 3), (0, 0), (0, 0), (0, 0), (0, 0), (0, 0)]) (M' := (mk_2 M)) C hH h_1 k_X8 (by decide +kernel) rfl (by decide) tg_200 rfl rfl dX8_init_36 rfl ?_
  have hZ : Zr 11 (mk_2 M) := Zr.w hZ (Nat.le_of_ble_eq_true rfl)
  refine G.aload_n C 0 dX8_init_39 rfl rfl ?_
  refine G.iconst (v := (0 : Int32)) C dX8_init_40 (by decide) ?_
  refine G.putIa (q := 1) (k := 5) (fs := [(3, 2), (3, 3), (0, 0), (0, 0), (0, 0), (0, 0), (0, 0)]) (M' := (mk_3 M)) C hH h_1 k_X8 (by decide +kernel) rfl (by decide) tg_201 rfl rfl dX8_init_41 rfl ?_
  have hZ : Zr 11 (mk_3 M) := Zr.w hZ (Nat.le_of_ble_eq_true rfl)
  refine G.aload_n C 0 dX8_init_44 rfl rfl ?_
  refine G.iconst (v := (-1 : Int32)) C dX8_init_45 (by decide) ?_
  refine G.putIa (q := 1) (k := 6) (fs := [(3, 2), (3, 3), (0, 0), (0, 0), (0, 0), (0, 0), (0, 0)]) (M' := (mk_4 M)) C hH h_1 k_X8 (by decide +kernel) rfl (by decide) tg_202 rfl rfl dX8_init_46 rfl ?_
  have hZ : Zr 11 (mk_4 M) := Zr.w hZ (Nat.le_of_ble_eq_true rfl)
  exact G.kR C sm hH os_19 hr dX8_init_49
def shk_20 : List Shp := shk_19.set 0 (.inr (8, [(3, 1), (4, 0), (0, 0), (4, 0), (4, 0), (4, 0), (4, 0), (4, 0), (4, 0), (4, 0), (0, 0)]))
theorem os_20 : okS shk_20 11 = true := by decide +kernel
def shk_21 : List Shp := shk_20 ++ [.inr (6, [(4, 0), (4, 0), (4, 0), (4, 0), (4, 0), (4, 0), (4, 0), (0, 0), (0, 0), (0, 0)])]
theorem os_21 : okS shk_21 12 = true := by decide +kernel
def shk_22 : List Shp := shk_21 ++ [.inl (1, 10, [])]
theorem os_22 : okS shk_22 13 = true := by decide +kernel
def shk_23 : List Shp := shk_22.set 11 (.inr (6, [(3, 12), (4, 0), (4, 0), (4, 0), (4, 0), (4, 0), (4, 0), (0, 0), (0, 0), (0, 0)]))
theorem os_23 : okS shk_23 13 = true := by decide +kernel
def shk_24 : List Shp := shk_23 ++ [.inl (1, 10, [])]
theorem os_24 : okS shk_24 14 = true := by decide +kernel
def shk_25 : List Shp := shk_24.set 11 (.inr (6, [(3, 12), (3, 13), (4, 0), (4, 0), (4, 0), (4, 0), (4, 0), (0, 0), (0, 0), (0, 0)]))
theorem os_25 : okS shk_25 14 = true := by decide +kernel
def shk_26 : List Shp := shk_25 ++ [.inl (0, 48, [])]
theorem os_26 : okS shk_26 15 = true := by decide +kernel
def shk_27 : List Shp := shk_26.set 11 (.inr (6, [(3, 12), (3, 13), (3, 14), (4, 0), (4, 0), (4, 0), (4, 0), (0, 0), (0, 0), (0, 0)]))
theorem os_27 : okS shk_27 15 = true := by decide +kernel
def shk_28 : List Shp := shk_27 ++ [.inl (0, 6, [])]
theorem os_28 : okS shk_28 16 = true := by decide +kernel
def shk_29 : List Shp := shk_28.set 11 (.inr (6, [(3, 12), (3, 13), (3, 14), (3, 15), (4, 0), (4, 0), (4, 0), (0, 0), (0, 0), (0, 0)]))
theorem os_29 : okS shk_29 16 = true := by decide +kernel
def shk_30 : List Shp := shk_29 ++ [.inl (0, 10, [])]
theorem os_30 : okS shk_30 17 = true := by decide +kernel
def shk_31 : List Shp := shk_30.set 11 (.inr (6, [(3, 12), (3, 13), (3, 14), (3, 15), (3, 16), (4, 0), (4, 0), (0, 0), (0, 0), (0, 0)]))
theorem os_31 : okS shk_31 17 = true := by decide +kernel
def shk_32 : List Shp := shk_31 ++ [.inl (1, 16, [])]
theorem os_32 : okS shk_32 18 = true := by decide +kernel
def shk_33 : List Shp := shk_32.set 11 (.inr (6, [(3, 12), (3, 13), (3, 14), (3, 15), (3, 16), (3, 17), (4, 0), (0, 0), (0, 0), (0, 0)]))
theorem os_33 : okS shk_33 18 = true := by decide +kernel
def shk_34 : List Shp := shk_33 ++ [.inl (0, 16, [])]
theorem os_34 : okS shk_34 19 = true := by decide +kernel
def shk_35 : List Shp := shk_34.set 11 (.inr (6, [(3, 12), (3, 13), (3, 14), (3, 15), (3, 16), (3, 17), (3, 18), (0, 0), (0, 0), (0, 0)]))
theorem os_35 : okS shk_35 19 = true := by decide +kernel
set_option maxHeartbeats 8000000 in
set_option maxRecDepth 100000 in
theorem n_X7_init_11 {l : Launch} {E : Ev} {a : Nat} {M : Mm} (hH : eH E = shk_21) (h_11 : eA E 11 = a) (hZ : Zr 12 M) : MetN l yX7_init cX7_init 1 1 7 116 E [.ref a] M 12 shk_35 M := by
  refine MetK.of (by decide +kernel) (Nat.le_of_ble_eq_true rfl) ?_
  intro p e s m below meth c C hr hnm
  refine G.sub [0] (L' := [(0, .ref a)]) rfl ?_
  have sm : Sm E E 12 := Sm.rf
  refine G.aload_n C 0 dX7_init_0 rfl rfl ?_
  refine G.objInit C tg_135 tg_122 tg_123 ⟨(Nat.le_of_ble_eq_true rfl), (Nat.le_of_ble_eq_true rfl)⟩ (Nat.le_of_ble_eq_true rfl) dX7_init_1 ?_
  refine G.aload_n C 0 dX7_init_4 rfl rfl ?_
  refine G.bipush (v := (10 : Int32)) C dX7_init_5 (by decide) ?_
  refine G.kJ (N := 10) C hH os_21 tg_193 hZ (by decide) (by decide) (by decide) (Nat.le_of_ble_eq_true rfl) (Nat.le_of_ble_eq_true rfl) dX7_init_7 (fun E1 q1 C hH sm1 h_12 => ?_)
  have hH : eH E1 = shk_22 := hH
  have sm := Sm.tr sm sm1 (Nat.le_of_ble_eq_true rfl)
  have h_11 := Sm.at sm1 (Nat.le_of_ble_eq_true rfl) h_11
  have hZ := Zr.up hZ (k := 13) (Nat.le_of_ble_eq_true rfl)
  refine G.kP (n := 13) (q := 11) (k := 0) (t := 12) (w := 0) (sh2 := shk_23) (fs := [(4, 0), (4, 0), (4, 0), (4, 0), (4, 0), (4, 0), (4, 0), (0, 0), (0, 0), (0, 0)]) C hH k_X7 (by decide +kernel) rfl (by decide) tg_136 rfl hnm rfl rfl rfl h_12 h_11 rfl dX7_init_9 (fun E2 C hH sm1 => ?_)
  have sm := Sm.tr sm sm1 (Nat.le_of_ble_eq_true rfl)
  have h_11 := Sm.at sm1 (Nat.le_of_ble_eq_true rfl) h_11
  refine G.aload_n C 0 dX7_init_12 rfl rfl ?_
  refine G.bipush (v := (10 : Int32)) C dX7_init_13 (by decide) ?_
  refine G.kJ (N := 10) C hH os_23 tg_193 hZ (by decide) (by decide) (by decide) (Nat.le_of_ble_eq_true rfl) (Nat.le_of_ble_eq_true rfl) dX7_init_15 (fun E3 q3 C hH sm1 h_13 => ?_)
  have hH : eH E3 = shk_24 := hH
  have sm := Sm.tr sm sm1 (Nat.le_of_ble_eq_true rfl)
  have h_11 := Sm.at sm1 (Nat.le_of_ble_eq_true rfl) h_11
  have hZ := Zr.up hZ (k := 14) (Nat.le_of_ble_eq_true rfl)
  refine G.kP (n := 14) (q := 11) (k := 1) (t := 13) (w := 0) (sh2 := shk_25) (fs := [(3, 12), (4, 0), (4, 0), (4, 0), (4, 0), (4, 0), (4, 0), (0, 0), (0, 0), (0, 0)]) C hH k_X7 (by decide +kernel) rfl (by decide) tg_138 rfl hnm rfl rfl rfl h_13 h_11 rfl dX7_init_17 (fun E4 C hH sm1 => ?_)
  have sm := Sm.tr sm sm1 (Nat.le_of_ble_eq_true rfl)
  have h_11 := Sm.at sm1 (Nat.le_of_ble_eq_true rfl) h_11
  refine G.aload_n C 0 dX7_init_20 rfl rfl ?_
  refine G.bipush (v := (48 : Int32)) C dX7_init_21 (by decide) ?_
  refine G.kI (N := 48) C hH os_25 tg_192 hZ (by decide) (by decide) (by decide) (Nat.le_of_ble_eq_true rfl) (Nat.le_of_ble_eq_true rfl) dX7_init_23 (fun E5 q5 C hH sm1 h_14 => ?_)
  have hH : eH E5 = shk_26 := hH
  have sm := Sm.tr sm sm1 (Nat.le_of_ble_eq_true rfl)
  have h_11 := Sm.at sm1 (Nat.le_of_ble_eq_true rfl) h_11
  have hZ := Zr.up hZ (k := 15) (Nat.le_of_ble_eq_true rfl)
  refine G.kP (n := 15) (q := 11) (k := 2) (t := 14) (w := 0) (sh2 := shk_27) (fs := [(3, 12), (3, 13), (4, 0), (4, 0), (4, 0), (4, 0), (4, 0), (0, 0), (0, 0), (0, 0)]) C hH k_X7 (by decide +kernel) rfl (by decide) tg_140 rfl hnm rfl rfl rfl h_14 h_11 rfl dX7_init_25 (fun E6 C hH sm1 => ?_)
  have sm := Sm.tr sm sm1 (Nat.le_of_ble_eq_true rfl)
  have h_11 := Sm.at sm1 (Nat.le_of_ble_eq_true rfl) h_11
  refine G.aload_n C 0 dX7_init_28 rfl rfl ?_
  refine G.bipush (v := (6 : Int32)) C dX7_init_29 (by decide) ?_
  refine G.kI (N := 6) C hH os_27 tg_192 hZ (by decide) (by decide) (by decide) (Nat.le_of_ble_eq_true rfl) (Nat.le_of_ble_eq_true rfl) dX7_init_31 (fun E7 q7 C hH sm1 h_15 => ?_)
  have hH : eH E7 = shk_28 := hH
  have sm := Sm.tr sm sm1 (Nat.le_of_ble_eq_true rfl)
  have h_11 := Sm.at sm1 (Nat.le_of_ble_eq_true rfl) h_11
  have hZ := Zr.up hZ (k := 16) (Nat.le_of_ble_eq_true rfl)
  refine G.kP (n := 16) (q := 11) (k := 3) (t := 15) (w := 0) (sh2 := shk_29) (fs := [(3, 12), (3, 13), (3, 14), (4, 0), (4, 0), (4, 0), (4, 0), (0, 0), (0, 0), (0, 0)]) C hH k_X7 (by decide +kernel) rfl (by decide) tg_142 rfl hnm rfl rfl rfl h_15 h_11 rfl dX7_init_33 (fun E8 C hH sm1 => ?_)
  have sm := Sm.tr sm sm1 (Nat.le_of_ble_eq_true rfl)
  have h_11 := Sm.at sm1 (Nat.le_of_ble_eq_true rfl) h_11
  refine G.aload_n C 0 dX7_init_36 rfl rfl ?_
  refine G.bipush (v := (10 : Int32)) C dX7_init_37 (by decide) ?_
  refine G.kI (N := 10) C hH os_29 tg_192 hZ (by decide) (by decide) (by decide) (Nat.le_of_ble_eq_true rfl) (Nat.le_of_ble_eq_true rfl) dX7_init_39 (fun E9 q9 C hH sm1 h_16 => ?_)
  have hH : eH E9 = shk_30 := hH
  have sm := Sm.tr sm sm1 (Nat.le_of_ble_eq_true rfl)
  have h_11 := Sm.at sm1 (Nat.le_of_ble_eq_true rfl) h_11
  have hZ := Zr.up hZ (k := 17) (Nat.le_of_ble_eq_true rfl)
  refine G.kP (n := 17) (q := 11) (k := 4) (t := 16) (w := 0) (sh2 := shk_31) (fs := [(3, 12), (3, 13), (3, 14), (3, 15), (4, 0), (4, 0), (4, 0), (0, 0), (0, 0), (0, 0)]) C hH k_X7 (by decide +kernel) rfl (by decide) tg_145 rfl hnm rfl rfl rfl h_16 h_11 rfl dX7_init_41 (fun E10 C hH sm1 => ?_)
  have sm := Sm.tr sm sm1 (Nat.le_of_ble_eq_true rfl)
  have h_11 := Sm.at sm1 (Nat.le_of_ble_eq_true rfl) h_11
  refine G.aload_n C 0 dX7_init_44 rfl rfl ?_
  refine G.bipush (v := (16 : Int32)) C dX7_init_45 (by decide) ?_
  refine G.kJ (N := 16) C hH os_31 tg_193 hZ (by decide) (by decide) (by decide) (Nat.le_of_ble_eq_true rfl) (Nat.le_of_ble_eq_true rfl) dX7_init_47 (fun E11 q11 C hH sm1 h_17 => ?_)
  have hH : eH E11 = shk_32 := hH
  have sm := Sm.tr sm sm1 (Nat.le_of_ble_eq_true rfl)
  have h_11 := Sm.at sm1 (Nat.le_of_ble_eq_true rfl) h_11
  have hZ := Zr.up hZ (k := 18) (Nat.le_of_ble_eq_true rfl)
  refine G.kP (n := 18) (q := 11) (k := 5) (t := 17) (w := 0) (sh2 := shk_33) (fs := [(3, 12), (3, 13), (3, 14), (3, 15), (3, 16), (4, 0), (4, 0), (0, 0), (0, 0), (0, 0)]) C hH k_X7 (by decide +kernel) rfl (by decide) tg_148 rfl hnm rfl rfl rfl h_17 h_11 rfl dX7_init_49 (fun E12 C hH sm1 => ?_)
  have sm := Sm.tr sm sm1 (Nat.le_of_ble_eq_true rfl)
  have h_11 := Sm.at sm1 (Nat.le_of_ble_eq_true rfl) h_11
  refine G.aload_n C 0 dX7_init_52 rfl rfl ?_
  refine G.bipush (v := (16 : Int32)) C dX7_init_53 (by decide) ?_
  refine G.kI (N := 16) C hH os_33 tg_192 hZ (by decide) (by decide) (by decide) (Nat.le_of_ble_eq_true rfl) (Nat.le_of_ble_eq_true rfl) dX7_init_55 (fun E13 q13 C hH sm1 h_18 => ?_)
  have hH : eH E13 = shk_34 := hH
  have sm := Sm.tr sm sm1 (Nat.le_of_ble_eq_true rfl)
  have h_11 := Sm.at sm1 (Nat.le_of_ble_eq_true rfl) h_11
  have hZ := Zr.up hZ (k := 19) (Nat.le_of_ble_eq_true rfl)
  refine G.kP (n := 19) (q := 11) (k := 6) (t := 18) (w := 0) (sh2 := shk_35) (fs := [(3, 12), (3, 13), (3, 14), (3, 15), (3, 16), (3, 17), (4, 0), (0, 0), (0, 0), (0, 0)]) C hH k_X7 (by decide +kernel) rfl (by decide) tg_153 rfl hnm rfl rfl rfl h_18 h_11 rfl dX7_init_57 (fun E14 C hH sm1 => ?_)
  have sm := Sm.tr sm sm1 (Nat.le_of_ble_eq_true rfl)
  have h_11 := Sm.at sm1 (Nat.le_of_ble_eq_true rfl) h_11
  exact G.kR C sm hH os_35 hr dX7_init_60
def shk_36 : List Shp := shk_35.set 0 (.inr (8, [(3, 1), (3, 11), (0, 0), (4, 0), (4, 0), (4, 0), (4, 0), (4, 0), (4, 0), (4, 0), (0, 0)]))
theorem os_36 : okS shk_36 19 = true := by decide +kernel
def shk_37 : List Shp := shk_36 ++ [.inr (3, [(4, 0), (4, 0), (4, 0), (4, 0)])]
theorem os_37 : okS shk_37 20 = true := by decide +kernel
def shk_38 : List Shp := shk_37 ++ [.inl (1, 32, [])]
theorem os_38 : okS shk_38 21 = true := by decide +kernel
def shk_39 : List Shp := shk_38.set 19 (.inr (3, [(3, 20), (4, 0), (4, 0), (4, 0)]))
theorem os_39 : okS shk_39 21 = true := by decide +kernel
def shk_40 : List Shp := shk_39 ++ [.inl (0, 16, [])]
theorem os_40 : okS shk_40 22 = true := by decide +kernel
def shk_41 : List Shp := shk_40.set 19 (.inr (3, [(3, 20), (3, 21), (4, 0), (4, 0)]))
theorem os_41 : okS shk_41 22 = true := by decide +kernel
def shk_42 : List Shp := shk_41 ++ [.inl (0, 16, [])]
theorem os_42 : okS shk_42 23 = true := by decide +kernel
def shk_43 : List Shp := shk_42.set 19 (.inr (3, [(3, 20), (3, 21), (3, 22), (4, 0)]))
theorem os_43 : okS shk_43 23 = true := by decide +kernel
def shk_44 : List Shp := shk_43 ++ [.inl (0, 16, [])]
theorem os_44 : okS shk_44 24 = true := by decide +kernel
def shk_45 : List Shp := shk_44.set 19 (.inr (3, [(3, 20), (3, 21), (3, 22), (3, 23)]))
theorem os_45 : okS shk_45 24 = true := by decide +kernel
set_option maxHeartbeats 8000000 in
set_option maxRecDepth 100000 in
theorem n_X3_init_19 {l : Launch} {E : Ev} {a : Nat} {M : Mm} (hH : eH E = shk_37) (h_19 : eA E 19 = a) (hZ : Zr 20 M) : MetN l yX3_init cX3_init 1 1 4 80 E [.ref a] M 20 shk_45 M := by
  refine MetK.of (by decide +kernel) (Nat.le_of_ble_eq_true rfl) ?_
  intro p e s m below meth c C hr hnm
  refine G.sub [0] (L' := [(0, .ref a)]) rfl ?_
  have sm : Sm E E 20 := Sm.rf
  refine G.aload_n C 0 dX3_init_0 rfl rfl ?_
  refine G.objInit C tg_226 tg_122 tg_123 ⟨(Nat.le_of_ble_eq_true rfl), (Nat.le_of_ble_eq_true rfl)⟩ (Nat.le_of_ble_eq_true rfl) dX3_init_1 ?_
  refine G.aload_n C 0 dX3_init_4 rfl rfl ?_
  refine G.bipush (v := (32 : Int32)) C dX3_init_5 (by decide) ?_
  refine G.kJ (N := 32) C hH os_37 tg_193 hZ (by decide) (by decide) (by decide) (Nat.le_of_ble_eq_true rfl) (Nat.le_of_ble_eq_true rfl) dX3_init_7 (fun E1 q1 C hH sm1 h_20 => ?_)
  have hH : eH E1 = shk_38 := hH
  have sm := Sm.tr sm sm1 (Nat.le_of_ble_eq_true rfl)
  have h_19 := Sm.at sm1 (Nat.le_of_ble_eq_true rfl) h_19
  have hZ := Zr.up hZ (k := 21) (Nat.le_of_ble_eq_true rfl)
  refine G.kP (n := 21) (q := 19) (k := 0) (t := 20) (w := 0) (sh2 := shk_39) (fs := [(4, 0), (4, 0), (4, 0), (4, 0)]) C hH k_X3 (by decide +kernel) rfl (by decide) tg_227 rfl hnm rfl rfl rfl h_20 h_19 rfl dX3_init_9 (fun E2 C hH sm1 => ?_)
  have sm := Sm.tr sm sm1 (Nat.le_of_ble_eq_true rfl)
  have h_19 := Sm.at sm1 (Nat.le_of_ble_eq_true rfl) h_19
  refine G.aload_n C 0 dX3_init_12 rfl rfl ?_
  refine G.bipush (v := (16 : Int32)) C dX3_init_13 (by decide) ?_
  refine G.kI (N := 16) C hH os_39 tg_192 hZ (by decide) (by decide) (by decide) (Nat.le_of_ble_eq_true rfl) (Nat.le_of_ble_eq_true rfl) dX3_init_15 (fun E3 q3 C hH sm1 h_21 => ?_)
  have hH : eH E3 = shk_40 := hH
  have sm := Sm.tr sm sm1 (Nat.le_of_ble_eq_true rfl)
  have h_19 := Sm.at sm1 (Nat.le_of_ble_eq_true rfl) h_19
  have hZ := Zr.up hZ (k := 22) (Nat.le_of_ble_eq_true rfl)
  refine G.kP (n := 22) (q := 19) (k := 1) (t := 21) (w := 0) (sh2 := shk_41) (fs := [(3, 20), (4, 0), (4, 0), (4, 0)]) C hH k_X3 (by decide +kernel) rfl (by decide) tg_228 rfl hnm rfl rfl rfl h_21 h_19 rfl dX3_init_17 (fun E4 C hH sm1 => ?_)
  have sm := Sm.tr sm sm1 (Nat.le_of_ble_eq_true rfl)
  have h_19 := Sm.at sm1 (Nat.le_of_ble_eq_true rfl) h_19
  refine G.aload_n C 0 dX3_init_20 rfl rfl ?_
  refine G.bipush (v := (16 : Int32)) C dX3_init_21 (by decide) ?_
  refine G.kI (N := 16) C hH os_41 tg_192 hZ (by decide) (by decide) (by decide) (Nat.le_of_ble_eq_true rfl) (Nat.le_of_ble_eq_true rfl) dX3_init_23 (fun E5 q5 C hH sm1 h_22 => ?_)
  have hH : eH E5 = shk_42 := hH
  have sm := Sm.tr sm sm1 (Nat.le_of_ble_eq_true rfl)
  have h_19 := Sm.at sm1 (Nat.le_of_ble_eq_true rfl) h_19
  have hZ := Zr.up hZ (k := 23) (Nat.le_of_ble_eq_true rfl)
  refine G.kP (n := 23) (q := 19) (k := 2) (t := 22) (w := 0) (sh2 := shk_43) (fs := [(3, 20), (3, 21), (4, 0), (4, 0)]) C hH k_X3 (by decide +kernel) rfl (by decide) tg_229 rfl hnm rfl rfl rfl h_22 h_19 rfl dX3_init_25 (fun E6 C hH sm1 => ?_)
  have sm := Sm.tr sm sm1 (Nat.le_of_ble_eq_true rfl)
  have h_19 := Sm.at sm1 (Nat.le_of_ble_eq_true rfl) h_19
  refine G.aload_n C 0 dX3_init_28 rfl rfl ?_
  refine G.bipush (v := (16 : Int32)) C dX3_init_29 (by decide) ?_
  refine G.kI (N := 16) C hH os_43 tg_192 hZ (by decide) (by decide) (by decide) (Nat.le_of_ble_eq_true rfl) (Nat.le_of_ble_eq_true rfl) dX3_init_31 (fun E7 q7 C hH sm1 h_23 => ?_)
  have hH : eH E7 = shk_44 := hH
  have sm := Sm.tr sm sm1 (Nat.le_of_ble_eq_true rfl)
  have h_19 := Sm.at sm1 (Nat.le_of_ble_eq_true rfl) h_19
  have hZ := Zr.up hZ (k := 24) (Nat.le_of_ble_eq_true rfl)
  refine G.kP (n := 24) (q := 19) (k := 3) (t := 23) (w := 0) (sh2 := shk_45) (fs := [(3, 20), (3, 21), (3, 22), (4, 0)]) C hH k_X3 (by decide +kernel) rfl (by decide) tg_230 rfl hnm rfl rfl rfl h_23 h_19 rfl dX3_init_33 (fun E8 C hH sm1 => ?_)
  have sm := Sm.tr sm sm1 (Nat.le_of_ble_eq_true rfl)
  have h_19 := Sm.at sm1 (Nat.le_of_ble_eq_true rfl) h_19
  exact G.kR C sm hH os_45 hr dX3_init_36
def shk_46 : List Shp := shk_45.set 0 (.inr (8, [(3, 1), (3, 11), (0, 0), (3, 19), (4, 0), (4, 0), (4, 0), (4, 0), (4, 0), (4, 0), (0, 0)]))
theorem os_46 : okS shk_46 24 = true := by decide +kernel
def shk_47 : List Shp := shk_46 ++ [.inr (1, [(4, 0), (4, 0), (4, 0), (4, 0), (4, 0), (0, 0)])]
theorem os_47 : okS shk_47 25 = true := by decide +kernel
def shk_48 : List Shp := shk_47 ++ [.inl (1, 128, [])]
theorem os_48 : okS shk_48 26 = true := by decide +kernel
def shk_49 : List Shp := shk_48.set 24 (.inr (1, [(3, 25), (4, 0), (4, 0), (4, 0), (4, 0), (0, 0)]))
theorem os_49 : okS shk_49 26 = true := by decide +kernel
def shk_50 : List Shp := shk_49 ++ [.inl (1, 8, [])]
theorem os_50 : okS shk_50 27 = true := by decide +kernel
def shk_51 : List Shp := shk_50.set 24 (.inr (1, [(3, 25), (3, 26), (4, 0), (4, 0), (4, 0), (0, 0)]))
theorem os_51 : okS shk_51 27 = true := by decide +kernel
def shk_52 : List Shp := shk_51 ++ [.inl (0, 16, [])]
theorem os_52 : okS shk_52 28 = true := by decide +kernel
def shk_53 : List Shp := shk_52.set 24 (.inr (1, [(3, 25), (3, 26), (3, 27), (4, 0), (4, 0), (0, 0)]))
theorem os_53 : okS shk_53 28 = true := by decide +kernel
def shk_54 : List Shp := shk_53 ++ [.inl (0, 16, [])]
theorem os_54 : okS shk_54 29 = true := by decide +kernel
def shk_55 : List Shp := shk_54.set 24 (.inr (1, [(3, 25), (3, 26), (3, 27), (3, 28), (4, 0), (0, 0)]))
theorem os_55 : okS shk_55 29 = true := by decide +kernel
def shk_56 : List Shp := shk_55 ++ [.inl (0, 130, [])]
theorem os_56 : okS shk_56 30 = true := by decide +kernel
def shk_57 : List Shp := shk_56.set 24 (.inr (1, [(3, 25), (3, 26), (3, 27), (3, 28), (3, 29), (0, 0)]))
theorem os_57 : okS shk_57 30 = true := by decide +kernel
set_option maxHeartbeats 8000000 in
set_option maxRecDepth 100000 in
theorem n_X1_init_24 {l : Launch} {E : Ev} {a : Nat} {M : Mm} (hH : eH E = shk_47) (h_24 : eA E 24 = a) (hZ : Zr 25 M) : MetN l yX1_init cX1_init 1 1 5 298 E [.ref a] M 25 shk_57 M := by
  refine MetK.of (by decide +kernel) (Nat.le_of_ble_eq_true rfl) ?_
  intro p e s m below meth c C hr hnm
  refine G.sub [0] (L' := [(0, .ref a)]) rfl ?_
  have sm : Sm E E 25 := Sm.rf
  refine G.aload_n C 0 dX1_init_0 rfl rfl ?_
  refine G.objInit C tg_245 tg_122 tg_123 ⟨(Nat.le_of_ble_eq_true rfl), (Nat.le_of_ble_eq_true rfl)⟩ (Nat.le_of_ble_eq_true rfl) dX1_init_1 ?_
  refine G.aload_n C 0 dX1_init_4 rfl rfl ?_
  refine G.sipush (v := (128 : Int32)) C dX1_init_5 (by decide) ?_
  refine G.kJ (N := 128) C hH os_47 tg_193 hZ (by decide) (by decide) (by decide) (Nat.le_of_ble_eq_true rfl) (Nat.le_of_ble_eq_true rfl) dX1_init_8 (fun E1 q1 C hH sm1 h_25 => ?_)
  have hH : eH E1 = shk_48 := hH
  have sm := Sm.tr sm sm1 (Nat.le_of_ble_eq_true rfl)
  have h_24 := Sm.at sm1 (Nat.le_of_ble_eq_true rfl) h_24
  have hZ := Zr.up hZ (k := 26) (Nat.le_of_ble_eq_true rfl)
  refine G.kP (n := 26) (q := 24) (k := 0) (t := 25) (w := 0) (sh2 := shk_49) (fs := [(4, 0), (4, 0), (4, 0), (4, 0), (4, 0), (0, 0)]) C hH k_X1 (by decide +kernel) rfl (by decide) tg_246 rfl hnm rfl rfl rfl h_25 h_24 rfl dX1_init_10 (fun E2 C hH sm1 => ?_)
  have sm := Sm.tr sm sm1 (Nat.le_of_ble_eq_true rfl)
  have h_24 := Sm.at sm1 (Nat.le_of_ble_eq_true rfl) h_24
  refine G.aload_n C 0 dX1_init_13 rfl rfl ?_
  refine G.bipush (v := (8 : Int32)) C dX1_init_14 (by decide) ?_
  refine G.kJ (N := 8) C hH os_49 tg_193 hZ (by decide) (by decide) (by decide) (Nat.le_of_ble_eq_true rfl) (Nat.le_of_ble_eq_true rfl) dX1_init_16 (fun E3 q3 C hH sm1 h_26 => ?_)
  have hH : eH E3 = shk_50 := hH
  have sm := Sm.tr sm sm1 (Nat.le_of_ble_eq_true rfl)
  have h_24 := Sm.at sm1 (Nat.le_of_ble_eq_true rfl) h_24
  have hZ := Zr.up hZ (k := 27) (Nat.le_of_ble_eq_true rfl)
  refine G.kP (n := 27) (q := 24) (k := 1) (t := 26) (w := 0) (sh2 := shk_51) (fs := [(3, 25), (4, 0), (4, 0), (4, 0), (4, 0), (0, 0)]) C hH k_X1 (by decide +kernel) rfl (by decide) tg_247 rfl hnm rfl rfl rfl h_26 h_24 rfl dX1_init_18 (fun E4 C hH sm1 => ?_)
  have sm := Sm.tr sm sm1 (Nat.le_of_ble_eq_true rfl)
  have h_24 := Sm.at sm1 (Nat.le_of_ble_eq_true rfl) h_24
  refine G.aload_n C 0 dX1_init_21 rfl rfl ?_
  refine G.bipush (v := (16 : Int32)) C dX1_init_22 (by decide) ?_
  refine G.kI (N := 16) C hH os_51 tg_192 hZ (by decide) (by decide) (by decide) (Nat.le_of_ble_eq_true rfl) (Nat.le_of_ble_eq_true rfl) dX1_init_24 (fun E5 q5 C hH sm1 h_27 => ?_)
  have hH : eH E5 = shk_52 := hH
  have sm := Sm.tr sm sm1 (Nat.le_of_ble_eq_true rfl)
  have h_24 := Sm.at sm1 (Nat.le_of_ble_eq_true rfl) h_24
  have hZ := Zr.up hZ (k := 28) (Nat.le_of_ble_eq_true rfl)
  refine G.kP (n := 28) (q := 24) (k := 2) (t := 27) (w := 0) (sh2 := shk_53) (fs := [(3, 25), (3, 26), (4, 0), (4, 0), (4, 0), (0, 0)]) C hH k_X1 (by decide +kernel) rfl (by decide) tg_248 rfl hnm rfl rfl rfl h_27 h_24 rfl dX1_init_26 (fun E6 C hH sm1 => ?_)
  have sm := Sm.tr sm sm1 (Nat.le_of_ble_eq_true rfl)
  have h_24 := Sm.at sm1 (Nat.le_of_ble_eq_true rfl) h_24
  refine G.aload_n C 0 dX1_init_29 rfl rfl ?_
  refine G.bipush (v := (16 : Int32)) C dX1_init_30 (by decide) ?_
  refine G.kI (N := 16) C hH os_53 tg_192 hZ (by decide) (by decide) (by decide) (Nat.le_of_ble_eq_true rfl) (Nat.le_of_ble_eq_true rfl) dX1_init_32 (fun E7 q7 C hH sm1 h_28 => ?_)
  have hH : eH E7 = shk_54 := hH
  have sm := Sm.tr sm sm1 (Nat.le_of_ble_eq_true rfl)
  have h_24 := Sm.at sm1 (Nat.le_of_ble_eq_true rfl) h_24
  have hZ := Zr.up hZ (k := 29) (Nat.le_of_ble_eq_true rfl)
  refine G.kP (n := 29) (q := 24) (k := 3) (t := 28) (w := 0) (sh2 := shk_55) (fs := [(3, 25), (3, 26), (3, 27), (4, 0), (4, 0), (0, 0)]) C hH k_X1 (by decide +kernel) rfl (by decide) tg_249 rfl hnm rfl rfl rfl h_28 h_24 rfl dX1_init_34 (fun E8 C hH sm1 => ?_)
  have sm := Sm.tr sm sm1 (Nat.le_of_ble_eq_true rfl)
  have h_24 := Sm.at sm1 (Nat.le_of_ble_eq_true rfl) h_24
  refine G.aload_n C 0 dX1_init_37 rfl rfl ?_
  refine G.sipush (v := (130 : Int32)) C dX1_init_38 (by decide) ?_
  refine G.kI (N := 130) C hH os_55 tg_192 hZ (by decide) (by decide) (by decide) (Nat.le_of_ble_eq_true rfl) (Nat.le_of_ble_eq_true rfl) dX1_init_41 (fun E9 q9 C hH sm1 h_29 => ?_)
  have hH : eH E9 = shk_56 := hH
  have sm := Sm.tr sm sm1 (Nat.le_of_ble_eq_true rfl)
  have h_24 := Sm.at sm1 (Nat.le_of_ble_eq_true rfl) h_24
  have hZ := Zr.up hZ (k := 30) (Nat.le_of_ble_eq_true rfl)
  refine G.kP (n := 30) (q := 24) (k := 4) (t := 29) (w := 0) (sh2 := shk_57) (fs := [(3, 25), (3, 26), (3, 27), (3, 28), (4, 0), (0, 0)]) C hH k_X1 (by decide +kernel) rfl (by decide) tg_250 rfl hnm rfl rfl rfl h_29 h_24 rfl dX1_init_43 (fun E10 C hH sm1 => ?_)
  have sm := Sm.tr sm sm1 (Nat.le_of_ble_eq_true rfl)
  have h_24 := Sm.at sm1 (Nat.le_of_ble_eq_true rfl) h_24
  exact G.kR C sm hH os_57 hr dX1_init_46
def shk_58 : List Shp := shk_57.set 0 (.inr (8, [(3, 1), (3, 11), (0, 0), (3, 19), (3, 24), (4, 0), (4, 0), (4, 0), (4, 0), (4, 0), (0, 0)]))
theorem os_58 : okS shk_58 30 = true := by decide +kernel
def shk_59 : List Shp := shk_58 ++ [.inr (2, [(4, 0), (4, 0), (4, 0), (0, 0), (0, 0), (2, 0)])]
theorem os_59 : okS shk_59 31 = true := by decide +kernel
def shk_60 : List Shp := shk_59 ++ [.inl (0, 11, [])]
theorem os_60 : okS shk_60 32 = true := by decide +kernel
def shk_61 : List Shp := shk_60.set 30 (.inr (2, [(3, 31), (4, 0), (4, 0), (0, 0), (0, 0), (2, 0)]))
theorem os_61 : okS shk_61 32 = true := by decide +kernel
def shk_62 : List Shp := shk_61 ++ [.inl (0, 11, [])]
theorem os_62 : okS shk_62 33 = true := by decide +kernel
def shk_63 : List Shp := shk_62.set 30 (.inr (2, [(3, 31), (3, 32), (4, 0), (0, 0), (0, 0), (2, 0)]))
theorem os_63 : okS shk_63 33 = true := by decide +kernel
def shk_64 : List Shp := shk_63 ++ [.inl (0, 11, [])]
theorem os_64 : okS shk_64 34 = true := by decide +kernel
def shk_65 : List Shp := shk_64.set 30 (.inr (2, [(3, 31), (3, 32), (3, 33), (0, 0), (0, 0), (2, 0)]))
theorem os_65 : okS shk_65 34 = true := by decide +kernel
set_option maxHeartbeats 8000000 in
set_option maxRecDepth 100000 in
theorem n_X2_init_30 {l : Launch} {E : Ev} {a : Nat} {M : Mm} (hH : eH E = shk_59) (h_30 : eA E 30 = a) (hZ : Zr 31 M) : MetN l yX2_init cX2_init 1 1 3 33 E [.ref a] M 31 shk_65 M := by
  refine MetK.of (by decide +kernel) (Nat.le_of_ble_eq_true rfl) ?_
  intro p e s m below meth c C hr hnm
  refine G.sub [0] (L' := [(0, .ref a)]) rfl ?_
  have sm : Sm E E 31 := Sm.rf
  refine G.aload_n C 0 dX2_init_0 rfl rfl ?_
  refine G.objInit C tg_270 tg_122 tg_123 ⟨(Nat.le_of_ble_eq_true rfl), (Nat.le_of_ble_eq_true rfl)⟩ (Nat.le_of_ble_eq_true rfl) dX2_init_1 ?_
  refine G.aload_n C 0 dX2_init_4 rfl rfl ?_
  refine G.bipush (v := (11 : Int32)) C dX2_init_5 (by decide) ?_
  refine G.kI (N := 11) C hH os_59 tg_192 hZ (by decide) (by decide) (by decide) (Nat.le_of_ble_eq_true rfl) (Nat.le_of_ble_eq_true rfl) dX2_init_7 (fun E1 q1 C hH sm1 h_31 => ?_)
  have hH : eH E1 = shk_60 := hH
  have sm := Sm.tr sm sm1 (Nat.le_of_ble_eq_true rfl)
  have h_30 := Sm.at sm1 (Nat.le_of_ble_eq_true rfl) h_30
  have hZ := Zr.up hZ (k := 32) (Nat.le_of_ble_eq_true rfl)
  refine G.kP (n := 32) (q := 30) (k := 0) (t := 31) (w := 0) (sh2 := shk_61) (fs := [(4, 0), (4, 0), (4, 0), (0, 0), (0, 0), (2, 0)]) C hH k_X2 (by decide +kernel) rfl (by decide) tg_271 rfl hnm rfl rfl rfl h_31 h_30 rfl dX2_init_9 (fun E2 C hH sm1 => ?_)
  have sm := Sm.tr sm sm1 (Nat.le_of_ble_eq_true rfl)
  have h_30 := Sm.at sm1 (Nat.le_of_ble_eq_true rfl) h_30
  refine G.aload_n C 0 dX2_init_12 rfl rfl ?_
  refine G.bipush (v := (11 : Int32)) C dX2_init_13 (by decide) ?_
  refine G.kI (N := 11) C hH os_61 tg_192 hZ (by decide) (by decide) (by decide) (Nat.le_of_ble_eq_true rfl) (Nat.le_of_ble_eq_true rfl) dX2_init_15 (fun E3 q3 C hH sm1 h_32 => ?_)
  have hH : eH E3 = shk_62 := hH
  have sm := Sm.tr sm sm1 (Nat.le_of_ble_eq_true rfl)
  have h_30 := Sm.at sm1 (Nat.le_of_ble_eq_true rfl) h_30
  have hZ := Zr.up hZ (k := 33) (Nat.le_of_ble_eq_true rfl)
  refine G.kP (n := 33) (q := 30) (k := 1) (t := 32) (w := 0) (sh2 := shk_63) (fs := [(3, 31), (4, 0), (4, 0), (0, 0), (0, 0), (2, 0)]) C hH k_X2 (by decide +kernel) rfl (by decide) tg_272 rfl hnm rfl rfl rfl h_32 h_30 rfl dX2_init_17 (fun E4 C hH sm1 => ?_)
  have sm := Sm.tr sm sm1 (Nat.le_of_ble_eq_true rfl)
  have h_30 := Sm.at sm1 (Nat.le_of_ble_eq_true rfl) h_30
  refine G.aload_n C 0 dX2_init_20 rfl rfl ?_
  refine G.bipush (v := (11 : Int32)) C dX2_init_21 (by decide) ?_
  refine G.kI (N := 11) C hH os_63 tg_192 hZ (by decide) (by decide) (by decide) (Nat.le_of_ble_eq_true rfl) (Nat.le_of_ble_eq_true rfl) dX2_init_23 (fun E5 q5 C hH sm1 h_33 => ?_)
  have hH : eH E5 = shk_64 := hH
  have sm := Sm.tr sm sm1 (Nat.le_of_ble_eq_true rfl)
  have h_30 := Sm.at sm1 (Nat.le_of_ble_eq_true rfl) h_30
  have hZ := Zr.up hZ (k := 34) (Nat.le_of_ble_eq_true rfl)
  refine G.kP (n := 34) (q := 30) (k := 2) (t := 33) (w := 0) (sh2 := shk_65) (fs := [(3, 31), (3, 32), (4, 0), (0, 0), (0, 0), (2, 0)]) C hH k_X2 (by decide +kernel) rfl (by decide) tg_273 rfl hnm rfl rfl rfl h_33 h_30 rfl dX2_init_25 (fun E6 C hH sm1 => ?_)
  have sm := Sm.tr sm sm1 (Nat.le_of_ble_eq_true rfl)
  have h_30 := Sm.at sm1 (Nat.le_of_ble_eq_true rfl) h_30
  exact G.kR C sm hH os_65 hr dX2_init_28
def shk_66 : List Shp := shk_65.set 0 (.inr (8, [(3, 1), (3, 11), (0, 0), (3, 19), (3, 24), (3, 30), (4, 0), (4, 0), (4, 0), (4, 0), (0, 0)]))
theorem os_66 : okS shk_66 34 = true := by decide +kernel
def shk_67 : List Shp := shk_66 ++ [.inr (5, [(0, 0), (0, 0), (4, 0), (4, 0), (4, 0), (4, 0), (4, 0), (4, 0), (4, 0), (4, 0), (4, 0), (0, 0), (0, 0)])]
theorem os_67 : okS shk_67 35 = true := by decide +kernel
def shk_68 : List Shp := shk_67 ++ [.inl (0, 10, [])]
theorem os_68 : okS shk_68 36 = true := by decide +kernel
def shk_69 : List Shp := shk_68.set 34 (.inr (5, [(0, 0), (0, 0), (3, 35), (4, 0), (4, 0), (4, 0), (4, 0), (4, 0), (4, 0), (4, 0), (4, 0), (0, 0), (0, 0)]))
theorem os_69 : okS shk_69 36 = true := by decide +kernel
def shk_70 : List Shp := shk_69 ++ [.inl (0, 10, [])]
theorem os_70 : okS shk_70 37 = true := by decide +kernel
def shk_71 : List Shp := shk_70.set 34 (.inr (5, [(0, 0), (0, 0), (3, 35), (3, 36), (4, 0), (4, 0), (4, 0), (4, 0), (4, 0), (4, 0), (4, 0), (0, 0), (0, 0)]))
theorem os_71 : okS shk_71 37 = true := by decide +kernel
def shk_72 : List Shp := shk_71 ++ [.inl (0, 10, [])]
theorem os_72 : okS shk_72 38 = true := by decide +kernel
def shk_73 : List Shp := shk_72.set 34 (.inr (5, [(0, 0), (0, 0), (3, 35), (3, 36), (3, 37), (4, 0), (4, 0), (4, 0), (4, 0), (4, 0), (4, 0), (0, 0), (0, 0)]))
theorem os_73 : okS shk_73 38 = true := by decide +kernel
def shk_74 : List Shp := shk_73 ++ [.inl (0, 17, [])]
theorem os_74 : okS shk_74 39 = true := by decide +kernel
def shk_75 : List Shp := shk_74.set 34 (.inr (5, [(0, 0), (0, 0), (3, 35), (3, 36), (3, 37), (3, 38), (4, 0), (4, 0), (4, 0), (4, 0), (4, 0), (0, 0), (0, 0)]))
theorem os_75 : okS shk_75 39 = true := by decide +kernel
def shk_76 : List Shp := shk_75 ++ [.inl (0, 6, [])]
theorem os_76 : okS shk_76 40 = true := by decide +kernel
def shk_77 : List Shp := shk_76.set 34 (.inr (5, [(0, 0), (0, 0), (3, 35), (3, 36), (3, 37), (3, 38), (3, 39), (4, 0), (4, 0), (4, 0), (4, 0), (0, 0), (0, 0)]))
theorem os_77 : okS shk_77 40 = true := by decide +kernel
def shk_78 : List Shp := shk_77 ++ [.inl (0, 6, [])]
theorem os_78 : okS shk_78 41 = true := by decide +kernel
def shk_79 : List Shp := shk_78.set 34 (.inr (5, [(0, 0), (0, 0), (3, 35), (3, 36), (3, 37), (3, 38), (3, 39), (3, 40), (4, 0), (4, 0), (4, 0), (0, 0), (0, 0)]))
theorem os_79 : okS shk_79 41 = true := by decide +kernel
def shk_80 : List Shp := shk_79 ++ [.inl (0, 6, [])]
theorem os_80 : okS shk_80 42 = true := by decide +kernel
def shk_81 : List Shp := shk_80.set 34 (.inr (5, [(0, 0), (0, 0), (3, 35), (3, 36), (3, 37), (3, 38), (3, 39), (3, 40), (3, 41), (4, 0), (4, 0), (0, 0), (0, 0)]))
theorem os_81 : okS shk_81 42 = true := by decide +kernel
def shk_82 : List Shp := shk_81 ++ [.inl (0, 36, [])]
theorem os_82 : okS shk_82 43 = true := by decide +kernel
def shk_83 : List Shp := shk_82.set 34 (.inr (5, [(0, 0), (0, 0), (3, 35), (3, 36), (3, 37), (3, 38), (3, 39), (3, 40), (3, 41), (3, 42), (4, 0), (0, 0), (0, 0)]))
theorem os_83 : okS shk_83 43 = true := by decide +kernel
def shk_84 : List Shp := shk_83 ++ [.inl (0, 60, [])]
theorem os_84 : okS shk_84 44 = true := by decide +kernel
def shk_85 : List Shp := shk_84.set 34 (.inr (5, [(0, 0), (0, 0), (3, 35), (3, 36), (3, 37), (3, 38), (3, 39), (3, 40), (3, 41), (3, 42), (3, 43), (0, 0), (0, 0)]))
theorem os_85 : okS shk_85 44 = true := by decide +kernel
def mk_6 (M : Mm) : Mm := wI M 34 0 (0 : Int32)
theorem zk_6 {M : Mm} {n : Nat} (hn : 44 ≤ n) (h : Zr n M) : Zr n (mk_6 M) := Zr.w h (by omega)
def mk_7 (M : Mm) : Mm := wI (mk_6 M) 34 1 (0 : Int32)
theorem zk_7 {M : Mm} {n : Nat} (hn : 44 ≤ n) (h : Zr n M) : Zr n (mk_7 M) := Zr.w (zk_6 hn h) (by omega)
def mk_8 (M : Mm) : Mm := wI (mk_7 M) 34 11 (0 : Int32)
theorem zk_8 {M : Mm} {n : Nat} (hn : 44 ≤ n) (h : Zr n M) : Zr n (mk_8 M) := Zr.w (zk_7 hn h) (by omega)
def mk_9 (M : Mm) : Mm := wI (mk_8 M) 34 12 (0 : Int32)
theorem zk_9 {M : Mm} {n : Nat} (hn : 44 ≤ n) (h : Zr n M) : Zr n (mk_9 M) := Zr.w (zk_8 hn h) (by omega)
set_option maxHeartbeats 8000000 in
set_option maxRecDepth 100000 in
theorem n_X6_init_34 {l : Launch} {E : Ev} {a : Nat} {M : Mm} (hH : eH E = shk_67) (h_34 : eA E 34 = a) (hZ : Zr 35 M) : MetN l yX6_init cX6_init 1 1 9 161 E [.ref a] M 35 shk_85 (mk_9 M) := by
  refine MetK.of (by decide +kernel) (Nat.le_of_ble_eq_true rfl) ?_
  intro p e s m below meth c C hr hnm
  refine G.sub [0] (L' := [(0, .ref a)]) rfl ?_
  have sm : Sm E E 35 := Sm.rf
  refine G.aload_n C 0 dX6_init_0 rfl rfl ?_
  refine G.objInit C tg_295 tg_122 tg_123 ⟨(Nat.le_of_ble_eq_true rfl), (Nat.le_of_ble_eq_true rfl)⟩ (Nat.le_of_ble_eq_true rfl) dX6_init_1 ?_
  refine G.aload_n C 0 dX6_init_4 rfl rfl ?_
  refine G.iconst (v := (0 : Int32)) C dX6_init_5 (by decide) ?_
  refine G.putIa (q := 34) (k := 0) (fs := [(0, 0), (0, 0), (4, 0), (4, 0), (4, 0), (4, 0), (4, 0), (4, 0), (4, 0), (4, 0), (4, 0), (0, 0), (0, 0)]) (M' := (mk_6 M)) C hH h_34 k_X6 (by decide +kernel) rfl (by decide) tg_296 rfl rfl dX6_init_6 rfl ?_
  have hZ : Zr 35 (mk_6 M) := Zr.w hZ (Nat.le_of_ble_eq_true rfl)
  refine G.aload_n C 0 dX6_init_9 rfl rfl ?_
  refine G.iconst (v := (0 : Int32)) C dX6_init_10 (by decide) ?_
  refine G.putIa (q := 34) (k := 1) (fs := [(0, 0), (0, 0), (4, 0), (4, 0), (4, 0), (4, 0), (4, 0), (4, 0), (4, 0), (4, 0), (4, 0), (0, 0), (0, 0)]) (M' := (mk_7 M)) C hH h_34 k_X6 (by decide +kernel) rfl (by decide) tg_297 rfl rfl dX6_init_11 rfl ?_
  have hZ : Zr 35 (mk_7 M) := Zr.w hZ (Nat.le_of_ble_eq_true rfl)
  refine G.aload_n C 0 dX6_init_14 rfl rfl ?_
  refine G.bipush (v := (10 : Int32)) C dX6_init_15 (by decide) ?_
  refine G.kI (N := 10) C hH os_67 tg_192 hZ (by decide) (by decide) (by decide) (Nat.le_of_ble_eq_true rfl) (Nat.le_of_ble_eq_true rfl) dX6_init_17 (fun E1 q1 C hH sm1 h_35 => ?_)
  have hH : eH E1 = shk_68 := hH
  have sm := Sm.tr sm sm1 (Nat.le_of_ble_eq_true rfl)
  have h_34 := Sm.at sm1 (Nat.le_of_ble_eq_true rfl) h_34
  have hZ := Zr.up hZ (k := 36) (Nat.le_of_ble_eq_true rfl)
  refine G.kP (n := 36) (q := 34) (k := 2) (t := 35) (w := 0) (sh2 := shk_69) (fs := [(0, 0), (0, 0), (4, 0), (4, 0), (4, 0), (4, 0), (4, 0), (4, 0), (4, 0), (4, 0), (4, 0), (0, 0), (0, 0)]) C hH k_X6 (by decide +kernel) rfl (by decide) tg_298 rfl hnm rfl rfl rfl h_35 h_34 rfl dX6_init_19 (fun E2 C hH sm1 => ?_)
  have sm := Sm.tr sm sm1 (Nat.le_of_ble_eq_true rfl)
  have h_34 := Sm.at sm1 (Nat.le_of_ble_eq_true rfl) h_34
  refine G.aload_n C 0 dX6_init_22 rfl rfl ?_
  refine G.bipush (v := (10 : Int32)) C dX6_init_23 (by decide) ?_
  refine G.kI (N := 10) C hH os_69 tg_192 hZ (by decide) (by decide) (by decide) (Nat.le_of_ble_eq_true rfl) (Nat.le_of_ble_eq_true rfl) dX6_init_25 (fun E3 q3 C hH sm1 h_36 => ?_)
  have hH : eH E3 = shk_70 := hH
  have sm := Sm.tr sm sm1 (Nat.le_of_ble_eq_true rfl)
  have h_34 := Sm.at sm1 (Nat.le_of_ble_eq_true rfl) h_34
  have hZ := Zr.up hZ (k := 37) (Nat.le_of_ble_eq_true rfl)
  refine G.kP (n := 37) (q := 34) (k := 3) (t := 36) (w := 0) (sh2 := shk_71) (fs := [(0, 0), (0, 0), (3, 35), (4, 0), (4, 0), (4, 0), (4, 0), (4, 0), (4, 0), (4, 0), (4, 0), (0, 0), (0, 0)]) C hH k_X6 (by decide +kernel) rfl (by decide) tg_299 rfl hnm rfl rfl rfl h_36 h_34 rfl dX6_init_27 (fun E4 C hH sm1 => ?_)
  have sm := Sm.tr sm sm1 (Nat.le_of_ble_eq_true rfl)
  have h_34 := Sm.at sm1 (Nat.le_of_ble_eq_true rfl) h_34
  refine G.aload_n C 0 dX6_init_30 rfl rfl ?_
  refine G.bipush (v := (10 : Int32)) C dX6_init_31 (by decide) ?_
  refine G.kI (N := 10) C hH os_71 tg_192 hZ (by decide) (by decide) (by decide) (Nat.le_of_ble_eq_true rfl) (Nat.le_of_ble_eq_true rfl) dX6_init_33 (fun E5 q5 C hH sm1 h_37 => ?_)
  have hH : eH E5 = shk_72 := hH
  have sm := Sm.tr sm sm1 (Nat.le_of_ble_eq_true rfl)
  have h_34 := Sm.at sm1 (Nat.le_of_ble_eq_true rfl) h_34
  have hZ := Zr.up hZ (k := 38) (Nat.le_of_ble_eq_true rfl)
  refine G.kP (n := 38) (q := 34) (k := 4) (t := 37) (w := 0) (sh2 := shk_73) (fs := [(0, 0), (0, 0), (3, 35), (3, 36), (4, 0), (4, 0), (4, 0), (4, 0), (4, 0), (4, 0), (4, 0), (0, 0), (0, 0)]) C hH k_X6 (by decide +kernel) rfl (by decide) tg_300 rfl hnm rfl rfl rfl h_37 h_34 rfl dX6_init_35 (fun E6 C hH sm1 => ?_)
  have sm := Sm.tr sm sm1 (Nat.le_of_ble_eq_true rfl)
  have h_34 := Sm.at sm1 (Nat.le_of_ble_eq_true rfl) h_34
  refine G.aload_n C 0 dX6_init_38 rfl rfl ?_
  refine G.bipush (v := (17 : Int32)) C dX6_init_39 (by decide) ?_
  refine G.kI (N := 17) C hH os_73 tg_192 hZ (by decide) (by decide) (by decide) (Nat.le_of_ble_eq_true rfl) (Nat.le_of_ble_eq_true rfl) dX6_init_41 (fun E7 q7 C hH sm1 h_38 => ?_)
  have hH : eH E7 = shk_74 := hH
  have sm := Sm.tr sm sm1 (Nat.le_of_ble_eq_true rfl)
  have h_34 := Sm.at sm1 (Nat.le_of_ble_eq_true rfl) h_34
  have hZ := Zr.up hZ (k := 39) (Nat.le_of_ble_eq_true rfl)
  refine G.kP (n := 39) (q := 34) (k := 5) (t := 38) (w := 0) (sh2 := shk_75) (fs := [(0, 0), (0, 0), (3, 35), (3, 36), (3, 37), (4, 0), (4, 0), (4, 0), (4, 0), (4, 0), (4, 0), (0, 0), (0, 0)]) C hH k_X6 (by decide +kernel) rfl (by decide) tg_301 rfl hnm rfl rfl rfl h_38 h_34 rfl dX6_init_43 (fun E8 C hH sm1 => ?_)
  have sm := Sm.tr sm sm1 (Nat.le_of_ble_eq_true rfl)
  have h_34 := Sm.at sm1 (Nat.le_of_ble_eq_true rfl) h_34
  refine G.aload_n C 0 dX6_init_46 rfl rfl ?_
  refine G.bipush (v := (6 : Int32)) C dX6_init_47 (by decide) ?_
  refine G.kI (N := 6) C hH os_75 tg_192 hZ (by decide) (by decide) (by decide) (Nat.le_of_ble_eq_true rfl) (Nat.le_of_ble_eq_true rfl) dX6_init_49 (fun E9 q9 C hH sm1 h_39 => ?_)
  have hH : eH E9 = shk_76 := hH
  have sm := Sm.tr sm sm1 (Nat.le_of_ble_eq_true rfl)
  have h_34 := Sm.at sm1 (Nat.le_of_ble_eq_true rfl) h_34
  have hZ := Zr.up hZ (k := 40) (Nat.le_of_ble_eq_true rfl)
  refine G.kP (n := 40) (q := 34) (k := 6) (t := 39) (w := 0) (sh2 := shk_77) (fs := [(0, 0), (0, 0), (3, 35), (3, 36), (3, 37), (3, 38), (4, 0), (4, 0), (4, 0), (4, 0), (4, 0), (0, 0), (0, 0)]) C hH k_X6 (by decide +kernel) rfl (by decide) tg_302 rfl hnm rfl rfl rfl h_39 h_34 rfl dX6_init_51 (fun E10 C hH sm1 => ?_)
  have sm := Sm.tr sm sm1 (Nat.le_of_ble_eq_true rfl)
  have h_34 := Sm.at sm1 (Nat.le_of_ble_eq_true rfl) h_34
  refine G.aload_n C 0 dX6_init_54 rfl rfl ?_
  refine G.bipush (v := (6 : Int32)) C dX6_init_55 (by decide) ?_
  refine G.kI (N := 6) C hH os_77 tg_192 hZ (by decide) (by decide) (by decide) (Nat.le_of_ble_eq_true rfl) (Nat.le_of_ble_eq_true rfl) dX6_init_57 (fun E11 q11 C hH sm1 h_40 => ?_)
  have hH : eH E11 = shk_78 := hH
  have sm := Sm.tr sm sm1 (Nat.le_of_ble_eq_true rfl)
  have h_34 := Sm.at sm1 (Nat.le_of_ble_eq_true rfl) h_34
  have hZ := Zr.up hZ (k := 41) (Nat.le_of_ble_eq_true rfl)
  refine G.kP (n := 41) (q := 34) (k := 7) (t := 40) (w := 0) (sh2 := shk_79) (fs := [(0, 0), (0, 0), (3, 35), (3, 36), (3, 37), (3, 38), (3, 39), (4, 0), (4, 0), (4, 0), (4, 0), (0, 0), (0, 0)]) C hH k_X6 (by decide +kernel) rfl (by decide) tg_303 rfl hnm rfl rfl rfl h_40 h_34 rfl dX6_init_59 (fun E12 C hH sm1 => ?_)
  have sm := Sm.tr sm sm1 (Nat.le_of_ble_eq_true rfl)
  have h_34 := Sm.at sm1 (Nat.le_of_ble_eq_true rfl) h_34
  refine G.aload_n C 0 dX6_init_62 rfl rfl ?_
  refine G.bipush (v := (6 : Int32)) C dX6_init_63 (by decide) ?_
  refine G.kI (N := 6) C hH os_79 tg_192 hZ (by decide) (by decide) (by decide) (Nat.le_of_ble_eq_true rfl) (Nat.le_of_ble_eq_true rfl) dX6_init_65 (fun E13 q13 C hH sm1 h_41 => ?_)
  have hH : eH E13 = shk_80 := hH
  have sm := Sm.tr sm sm1 (Nat.le_of_ble_eq_true rfl)
  have h_34 := Sm.at sm1 (Nat.le_of_ble_eq_true rfl) h_34
  have hZ := Zr.up hZ (k := 42) (Nat.le_of_ble_eq_true rfl)
  refine G.kP (n := 42) (q := 34) (k := 8) (t := 41) (w := 0) (sh2 := shk_81) (fs := [(0, 0), (0, 0), (3, 35), (3, 36), (3, 37), (3, 38), (3, 39), (3, 40), (4, 0), (4, 0), (4, 0), (0, 0), (0, 0)]) C hH k_X6 (by decide +kernel) rfl (by decide) tg_304 rfl hnm rfl rfl rfl h_41 h_34 rfl dX6_init_67 (fun E14 C hH sm1 => ?_)
  have sm := Sm.tr sm sm1 (Nat.le_of_ble_eq_true rfl)
  have h_34 := Sm.at sm1 (Nat.le_of_ble_eq_true rfl) h_34
  refine G.aload_n C 0 dX6_init_70 rfl rfl ?_
  refine G.bipush (v := (36 : Int32)) C dX6_init_71 (by decide) ?_
  refine G.kI (N := 36) C hH os_81 tg_192 hZ (by decide) (by decide) (by decide) (Nat.le_of_ble_eq_true rfl) (Nat.le_of_ble_eq_true rfl) dX6_init_73 (fun E15 q15 C hH sm1 h_42 => ?_)
  have hH : eH E15 = shk_82 := hH
  have sm := Sm.tr sm sm1 (Nat.le_of_ble_eq_true rfl)
  have h_34 := Sm.at sm1 (Nat.le_of_ble_eq_true rfl) h_34
  have hZ := Zr.up hZ (k := 43) (Nat.le_of_ble_eq_true rfl)
  refine G.kP (n := 43) (q := 34) (k := 9) (t := 42) (w := 0) (sh2 := shk_83) (fs := [(0, 0), (0, 0), (3, 35), (3, 36), (3, 37), (3, 38), (3, 39), (3, 40), (3, 41), (4, 0), (4, 0), (0, 0), (0, 0)]) C hH k_X6 (by decide +kernel) rfl (by decide) tg_305 rfl hnm rfl rfl rfl h_42 h_34 rfl dX6_init_75 (fun E16 C hH sm1 => ?_)
  have sm := Sm.tr sm sm1 (Nat.le_of_ble_eq_true rfl)
  have h_34 := Sm.at sm1 (Nat.le_of_ble_eq_true rfl) h_34
  refine G.aload_n C 0 dX6_init_78 rfl rfl ?_
  refine G.bipush (v := (60 : Int32)) C dX6_init_79 (by decide) ?_
  refine G.kI (N := 60) C hH os_83 tg_192 hZ (by decide) (by decide) (by decide) (Nat.le_of_ble_eq_true rfl) (Nat.le_of_ble_eq_true rfl) dX6_init_81 (fun E17 q17 C hH sm1 h_43 => ?_)
  have hH : eH E17 = shk_84 := hH
  have sm := Sm.tr sm sm1 (Nat.le_of_ble_eq_true rfl)
  have h_34 := Sm.at sm1 (Nat.le_of_ble_eq_true rfl) h_34
  have hZ := Zr.up hZ (k := 44) (Nat.le_of_ble_eq_true rfl)
  refine G.kP (n := 44) (q := 34) (k := 10) (t := 43) (w := 0) (sh2 := shk_85) (fs := [(0, 0), (0, 0), (3, 35), (3, 36), (3, 37), (3, 38), (3, 39), (3, 40), (3, 41), (3, 42), (4, 0), (0, 0), (0, 0)]) C hH k_X6 (by decide +kernel) rfl (by decide) tg_306 rfl hnm rfl rfl rfl h_43 h_34 rfl dX6_init_83 (fun E18 C hH sm1 => ?_)
  have sm := Sm.tr sm sm1 (Nat.le_of_ble_eq_true rfl)
  have h_34 := Sm.at sm1 (Nat.le_of_ble_eq_true rfl) h_34
  refine G.aload_n C 0 dX6_init_86 rfl rfl ?_
  refine G.iconst (v := (0 : Int32)) C dX6_init_87 (by decide) ?_
  refine G.putIa (q := 34) (k := 11) (fs := [(0, 0), (0, 0), (3, 35), (3, 36), (3, 37), (3, 38), (3, 39), (3, 40), (3, 41), (3, 42), (3, 43), (0, 0), (0, 0)]) (M' := (mk_8 M)) C hH h_34 k_X6 (by decide +kernel) rfl (by decide) tg_307 rfl rfl dX6_init_88 rfl ?_
  have hZ : Zr 44 (mk_8 M) := Zr.w hZ (Nat.le_of_ble_eq_true rfl)
  refine G.aload_n C 0 dX6_init_91 rfl rfl ?_
  refine G.iconst (v := (0 : Int32)) C dX6_init_92 (by decide) ?_
  refine G.putIa (q := 34) (k := 12) (fs := [(0, 0), (0, 0), (3, 35), (3, 36), (3, 37), (3, 38), (3, 39), (3, 40), (3, 41), (3, 42), (3, 43), (0, 0), (0, 0)]) (M' := (mk_9 M)) C hH h_34 k_X6 (by decide +kernel) rfl (by decide) tg_308 rfl rfl dX6_init_93 rfl ?_
  have hZ : Zr 44 (mk_9 M) := Zr.w hZ (Nat.le_of_ble_eq_true rfl)
  exact G.kR C sm hH os_85 hr dX6_init_96
def shk_86 : List Shp := shk_85.set 0 (.inr (8, [(3, 1), (3, 11), (0, 0), (3, 19), (3, 24), (3, 30), (3, 34), (4, 0), (4, 0), (4, 0), (0, 0)]))
theorem os_86 : okS shk_86 44 = true := by decide +kernel
def shk_87 : List Shp := shk_86 ++ [.inr (4, [(4, 0), (4, 0), (4, 0), (4, 0), (4, 0), (0, 0)])]
theorem os_87 : okS shk_87 45 = true := by decide +kernel
def shk_88 : List Shp := shk_87 ++ [.inl (1, 64, [])]
theorem os_88 : okS shk_88 46 = true := by decide +kernel
def shk_89 : List Shp := shk_88.set 44 (.inr (4, [(3, 45), (4, 0), (4, 0), (4, 0), (4, 0), (0, 0)]))
theorem os_89 : okS shk_89 46 = true := by decide +kernel
def shk_90 : List Shp := shk_89 ++ [.inl (0, 8, [])]
theorem os_90 : okS shk_90 47 = true := by decide +kernel
def shk_91 : List Shp := shk_90.set 44 (.inr (4, [(3, 45), (3, 46), (4, 0), (4, 0), (4, 0), (0, 0)]))
theorem os_91 : okS shk_91 47 = true := by decide +kernel
def shk_92 : List Shp := shk_91 ++ [.inl (2, 256, [])]
theorem os_92 : okS shk_92 48 = true := by decide +kernel
def shk_93 : List Shp := shk_92.set 44 (.inr (4, [(3, 45), (3, 46), (3, 47), (4, 0), (4, 0), (0, 0)]))
theorem os_93 : okS shk_93 48 = true := by decide +kernel
def shk_94 : List Shp := shk_93 ++ [.inl (0, 256, [])]
theorem os_94 : okS shk_94 49 = true := by decide +kernel
def shk_95 : List Shp := shk_94.set 44 (.inr (4, [(3, 45), (3, 46), (3, 47), (3, 48), (4, 0), (0, 0)]))
theorem os_95 : okS shk_95 49 = true := by decide +kernel
def shk_96 : List Shp := shk_95 ++ [.inl (0, 256, [])]
theorem os_96 : okS shk_96 50 = true := by decide +kernel
def shk_97 : List Shp := shk_96.set 44 (.inr (4, [(3, 45), (3, 46), (3, 47), (3, 48), (3, 49), (0, 0)]))
theorem os_97 : okS shk_97 50 = true := by decide +kernel
set_option maxHeartbeats 8000000 in
set_option maxRecDepth 100000 in
theorem n_X5_init_44 {l : Launch} {E : Ev} {a : Nat} {M : Mm} (hH : eH E = shk_87) (h_44 : eA E 44 = a) (hZ : Zr 45 M) : MetN l yX5_init cX5_init 1 1 5 840 E [.ref a] M 45 shk_97 M := by
  refine MetK.of (by decide +kernel) (Nat.le_of_ble_eq_true rfl) ?_
  intro p e s m below meth c C hr hnm
  refine G.sub [0] (L' := [(0, .ref a)]) rfl ?_
  have sm : Sm E E 45 := Sm.rf
  refine G.aload_n C 0 dX5_init_0 rfl rfl ?_
  refine G.objInit C tg_341 tg_122 tg_123 ⟨(Nat.le_of_ble_eq_true rfl), (Nat.le_of_ble_eq_true rfl)⟩ (Nat.le_of_ble_eq_true rfl) dX5_init_1 ?_
  refine G.aload_n C 0 dX5_init_4 rfl rfl ?_
  refine G.bipush (v := (64 : Int32)) C dX5_init_5 (by decide) ?_
  refine G.kJ (N := 64) C hH os_87 tg_193 hZ (by decide) (by decide) (by decide) (Nat.le_of_ble_eq_true rfl) (Nat.le_of_ble_eq_true rfl) dX5_init_7 (fun E1 q1 C hH sm1 h_45 => ?_)
  have hH : eH E1 = shk_88 := hH
  have sm := Sm.tr sm sm1 (Nat.le_of_ble_eq_true rfl)
  have h_44 := Sm.at sm1 (Nat.le_of_ble_eq_true rfl) h_44
  have hZ := Zr.up hZ (k := 46) (Nat.le_of_ble_eq_true rfl)
  refine G.kP (n := 46) (q := 44) (k := 0) (t := 45) (w := 0) (sh2 := shk_89) (fs := [(4, 0), (4, 0), (4, 0), (4, 0), (4, 0), (0, 0)]) C hH k_X5 (by decide +kernel) rfl (by decide) tg_342 rfl hnm rfl rfl rfl h_45 h_44 rfl dX5_init_9 (fun E2 C hH sm1 => ?_)
  have sm := Sm.tr sm sm1 (Nat.le_of_ble_eq_true rfl)
  have h_44 := Sm.at sm1 (Nat.le_of_ble_eq_true rfl) h_44
  refine G.aload_n C 0 dX5_init_12 rfl rfl ?_
  refine G.bipush (v := (8 : Int32)) C dX5_init_13 (by decide) ?_
  refine G.kI (N := 8) C hH os_89 tg_192 hZ (by decide) (by decide) (by decide) (Nat.le_of_ble_eq_true rfl) (Nat.le_of_ble_eq_true rfl) dX5_init_15 (fun E3 q3 C hH sm1 h_46 => ?_)
  have hH : eH E3 = shk_90 := hH
  have sm := Sm.tr sm sm1 (Nat.le_of_ble_eq_true rfl)
  have h_44 := Sm.at sm1 (Nat.le_of_ble_eq_true rfl) h_44
  have hZ := Zr.up hZ (k := 47) (Nat.le_of_ble_eq_true rfl)
  refine G.kP (n := 47) (q := 44) (k := 1) (t := 46) (w := 0) (sh2 := shk_91) (fs := [(3, 45), (4, 0), (4, 0), (4, 0), (4, 0), (0, 0)]) C hH k_X5 (by decide +kernel) rfl (by decide) tg_343 rfl hnm rfl rfl rfl h_46 h_44 rfl dX5_init_17 (fun E4 C hH sm1 => ?_)
  have sm := Sm.tr sm sm1 (Nat.le_of_ble_eq_true rfl)
  have h_44 := Sm.at sm1 (Nat.le_of_ble_eq_true rfl) h_44
  refine G.aload_n C 0 dX5_init_20 rfl rfl ?_
  refine G.sipush (v := (256 : Int32)) C dX5_init_21 (by decide) ?_
  refine G.kZ (N := 256) C hH os_91 tg_361 hZ (by decide) (by decide) (by decide) (Nat.le_of_ble_eq_true rfl) (Nat.le_of_ble_eq_true rfl) dX5_init_24 (fun E5 q5 C hH sm1 h_47 => ?_)
  have hH : eH E5 = shk_92 := hH
  have sm := Sm.tr sm sm1 (Nat.le_of_ble_eq_true rfl)
  have h_44 := Sm.at sm1 (Nat.le_of_ble_eq_true rfl) h_44
  have hZ := Zr.up hZ (k := 48) (Nat.le_of_ble_eq_true rfl)
  refine G.kP (n := 48) (q := 44) (k := 2) (t := 47) (w := 0) (sh2 := shk_93) (fs := [(3, 45), (3, 46), (4, 0), (4, 0), (4, 0), (0, 0)]) C hH k_X5 (by decide +kernel) rfl (by decide) tg_344 rfl hnm rfl rfl rfl h_47 h_44 rfl dX5_init_26 (fun E6 C hH sm1 => ?_)
  have sm := Sm.tr sm sm1 (Nat.le_of_ble_eq_true rfl)
  have h_44 := Sm.at sm1 (Nat.le_of_ble_eq_true rfl) h_44
  refine G.aload_n C 0 dX5_init_29 rfl rfl ?_
  refine G.sipush (v := (256 : Int32)) C dX5_init_30 (by decide) ?_
  refine G.kI (N := 256) C hH os_93 tg_192 hZ (by decide) (by decide) (by decide) (Nat.le_of_ble_eq_true rfl) (Nat.le_of_ble_eq_true rfl) dX5_init_33 (fun E7 q7 C hH sm1 h_48 => ?_)
  have hH : eH E7 = shk_94 := hH
  have sm := Sm.tr sm sm1 (Nat.le_of_ble_eq_true rfl)
  have h_44 := Sm.at sm1 (Nat.le_of_ble_eq_true rfl) h_44
  have hZ := Zr.up hZ (k := 49) (Nat.le_of_ble_eq_true rfl)
  refine G.kP (n := 49) (q := 44) (k := 3) (t := 48) (w := 0) (sh2 := shk_95) (fs := [(3, 45), (3, 46), (3, 47), (4, 0), (4, 0), (0, 0)]) C hH k_X5 (by decide +kernel) rfl (by decide) tg_345 rfl hnm rfl rfl rfl h_48 h_44 rfl dX5_init_35 (fun E8 C hH sm1 => ?_)
  have sm := Sm.tr sm sm1 (Nat.le_of_ble_eq_true rfl)
  have h_44 := Sm.at sm1 (Nat.le_of_ble_eq_true rfl) h_44
  refine G.aload_n C 0 dX5_init_38 rfl rfl ?_
  refine G.sipush (v := (256 : Int32)) C dX5_init_39 (by decide) ?_
  refine G.kI (N := 256) C hH os_95 tg_192 hZ (by decide) (by decide) (by decide) (Nat.le_of_ble_eq_true rfl) (Nat.le_of_ble_eq_true rfl) dX5_init_42 (fun E9 q9 C hH sm1 h_49 => ?_)
  have hH : eH E9 = shk_96 := hH
  have sm := Sm.tr sm sm1 (Nat.le_of_ble_eq_true rfl)
  have h_44 := Sm.at sm1 (Nat.le_of_ble_eq_true rfl) h_44
  have hZ := Zr.up hZ (k := 50) (Nat.le_of_ble_eq_true rfl)
  refine G.kP (n := 50) (q := 44) (k := 4) (t := 49) (w := 0) (sh2 := shk_97) (fs := [(3, 45), (3, 46), (3, 47), (3, 48), (4, 0), (0, 0)]) C hH k_X5 (by decide +kernel) rfl (by decide) tg_346 rfl hnm rfl rfl rfl h_49 h_44 rfl dX5_init_44 (fun E10 C hH sm1 => ?_)
  have sm := Sm.tr sm sm1 (Nat.le_of_ble_eq_true rfl)
  have h_44 := Sm.at sm1 (Nat.le_of_ble_eq_true rfl) h_44
  exact G.kR C sm hH os_97 hr dX5_init_47
def shk_98 : List Shp := shk_97.set 0 (.inr (8, [(3, 1), (3, 11), (0, 0), (3, 19), (3, 24), (3, 30), (3, 34), (3, 44), (4, 0), (4, 0), (0, 0)]))
theorem os_98 : okS shk_98 50 = true := by decide +kernel
def shk_99 : List Shp := shk_98 ++ [.inr (0, [(0, 0), (1, 0), (2, 0), (4, 0), (4, 0), (0, 0), (4, 0), (0, 0)])]
theorem os_99 : okS shk_99 51 = true := by decide +kernel
def shk_100 : List Shp := shk_99 ++ [.inl (0, 40, [])]
theorem os_100 : okS shk_100 52 = true := by decide +kernel
def shk_101 : List Shp := shk_100.set 50 (.inr (0, [(0, 0), (1, 0), (2, 0), (3, 51), (4, 0), (0, 0), (4, 0), (0, 0)]))
theorem os_101 : okS shk_101 52 = true := by decide +kernel
def shk_102 : List Shp := shk_101 ++ [.inl (1, 40, [])]
theorem os_102 : okS shk_102 53 = true := by decide +kernel
def shk_103 : List Shp := shk_102.set 50 (.inr (0, [(0, 0), (1, 0), (2, 0), (3, 51), (3, 52), (0, 0), (4, 0), (0, 0)]))
theorem os_103 : okS shk_103 53 = true := by decide +kernel
def shk_104 : List Shp := shk_103 ++ [.inl (1, 8, [])]
theorem os_104 : okS shk_104 54 = true := by decide +kernel
def shk_105 : List Shp := shk_104.set 50 (.inr (0, [(0, 0), (1, 0), (2, 0), (3, 51), (3, 52), (0, 0), (3, 53), (0, 0)]))
theorem os_105 : okS shk_105 54 = true := by decide +kernel
set_option maxHeartbeats 8000000 in
set_option maxRecDepth 100000 in
theorem n_X0_init_50 {l : Launch} {E : Ev} {a : Nat} {M : Mm} (hH : eH E = shk_99) (h_50 : eA E 50 = a) (hZ : Zr 51 M) : MetN l yX0_init cX0_init 1 1 3 88 E [.ref a] M 51 shk_105 M := by
  refine MetK.of (by decide +kernel) (Nat.le_of_ble_eq_true rfl) ?_
  intro p e s m below meth c C hr hnm
  refine G.sub [0] (L' := [(0, .ref a)]) rfl ?_
  have sm : Sm E E 51 := Sm.rf
  refine G.aload_n C 0 dX0_init_0 rfl rfl ?_
  refine G.objInit C tg_367 tg_122 tg_123 ⟨(Nat.le_of_ble_eq_true rfl), (Nat.le_of_ble_eq_true rfl)⟩ (Nat.le_of_ble_eq_true rfl) dX0_init_1 ?_
  refine G.aload_n C 0 dX0_init_4 rfl rfl ?_
  refine G.bipush (v := (40 : Int32)) C dX0_init_5 (by decide) ?_
  refine G.kI (N := 40) C hH os_99 tg_192 hZ (by decide) (by decide) (by decide) (Nat.le_of_ble_eq_true rfl) (Nat.le_of_ble_eq_true rfl) dX0_init_7 (fun E1 q1 C hH sm1 h_51 => ?_)
  have hH : eH E1 = shk_100 := hH
  have sm := Sm.tr sm sm1 (Nat.le_of_ble_eq_true rfl)
  have h_50 := Sm.at sm1 (Nat.le_of_ble_eq_true rfl) h_50
  have hZ := Zr.up hZ (k := 52) (Nat.le_of_ble_eq_true rfl)
  refine G.kP (n := 52) (q := 50) (k := 3) (t := 51) (w := 0) (sh2 := shk_101) (fs := [(0, 0), (1, 0), (2, 0), (4, 0), (4, 0), (0, 0), (4, 0), (0, 0)]) C hH k_X0 (by decide +kernel) rfl (by decide) tg_374 rfl hnm rfl rfl rfl h_51 h_50 rfl dX0_init_9 (fun E2 C hH sm1 => ?_)
  have sm := Sm.tr sm sm1 (Nat.le_of_ble_eq_true rfl)
  have h_50 := Sm.at sm1 (Nat.le_of_ble_eq_true rfl) h_50
  refine G.aload_n C 0 dX0_init_12 rfl rfl ?_
  refine G.bipush (v := (40 : Int32)) C dX0_init_13 (by decide) ?_
  refine G.kJ (N := 40) C hH os_101 tg_193 hZ (by decide) (by decide) (by decide) (Nat.le_of_ble_eq_true rfl) (Nat.le_of_ble_eq_true rfl) dX0_init_15 (fun E3 q3 C hH sm1 h_52 => ?_)
  have hH : eH E3 = shk_102 := hH
  have sm := Sm.tr sm sm1 (Nat.le_of_ble_eq_true rfl)
  have h_50 := Sm.at sm1 (Nat.le_of_ble_eq_true rfl) h_50
  have hZ := Zr.up hZ (k := 53) (Nat.le_of_ble_eq_true rfl)
  refine G.kP (n := 53) (q := 50) (k := 4) (t := 52) (w := 0) (sh2 := shk_103) (fs := [(0, 0), (1, 0), (2, 0), (3, 51), (4, 0), (0, 0), (4, 0), (0, 0)]) C hH k_X0 (by decide +kernel) rfl (by decide) tg_375 rfl hnm rfl rfl rfl h_52 h_50 rfl dX0_init_17 (fun E4 C hH sm1 => ?_)
  have sm := Sm.tr sm sm1 (Nat.le_of_ble_eq_true rfl)
  have h_50 := Sm.at sm1 (Nat.le_of_ble_eq_true rfl) h_50
  refine G.aload_n C 0 dX0_init_20 rfl rfl ?_
  refine G.bipush (v := (8 : Int32)) C dX0_init_21 (by decide) ?_
  refine G.kJ (N := 8) C hH os_103 tg_193 hZ (by decide) (by decide) (by decide) (Nat.le_of_ble_eq_true rfl) (Nat.le_of_ble_eq_true rfl) dX0_init_23 (fun E5 q5 C hH sm1 h_53 => ?_)
  have hH : eH E5 = shk_104 := hH
  have sm := Sm.tr sm sm1 (Nat.le_of_ble_eq_true rfl)
  have h_50 := Sm.at sm1 (Nat.le_of_ble_eq_true rfl) h_50
  have hZ := Zr.up hZ (k := 54) (Nat.le_of_ble_eq_true rfl)
  refine G.kP (n := 54) (q := 50) (k := 6) (t := 53) (w := 0) (sh2 := shk_105) (fs := [(0, 0), (1, 0), (2, 0), (3, 51), (3, 52), (0, 0), (4, 0), (0, 0)]) C hH k_X0 (by decide +kernel) rfl (by decide) tg_378 rfl hnm rfl rfl rfl h_53 h_50 rfl dX0_init_25 (fun E6 C hH sm1 => ?_)
  have sm := Sm.tr sm sm1 (Nat.le_of_ble_eq_true rfl)
  have h_50 := Sm.at sm1 (Nat.le_of_ble_eq_true rfl) h_50
  exact G.kR C sm hH os_105 hr dX0_init_28
def shk_106 : List Shp := shk_105.set 0 (.inr (8, [(3, 1), (3, 11), (0, 0), (3, 19), (3, 24), (3, 30), (3, 34), (3, 44), (3, 50), (4, 0), (0, 0)]))
theorem os_106 : okS shk_106 54 = true := by decide +kernel
def shk_107 : List Shp := shk_106 ++ [.inl (3, 3, [])]
theorem os_107 : okS shk_107 55 = true := by decide +kernel
def shk_108 : List Shp := shk_107 ++ [.inr (0, [(0, 0), (1, 0), (2, 0), (4, 0), (4, 0), (0, 0), (4, 0), (0, 0)])]
theorem os_108 : okS shk_108 56 = true := by decide +kernel
def shk_109 : List Shp := shk_108 ++ [.inl (0, 40, [])]
theorem os_109 : okS shk_109 57 = true := by decide +kernel
def shk_110 : List Shp := shk_109.set 55 (.inr (0, [(0, 0), (1, 0), (2, 0), (3, 56), (4, 0), (0, 0), (4, 0), (0, 0)]))
theorem os_110 : okS shk_110 57 = true := by decide +kernel
def shk_111 : List Shp := shk_110 ++ [.inl (1, 40, [])]
theorem os_111 : okS shk_111 58 = true := by decide +kernel
def shk_112 : List Shp := shk_111.set 55 (.inr (0, [(0, 0), (1, 0), (2, 0), (3, 56), (3, 57), (0, 0), (4, 0), (0, 0)]))
theorem os_112 : okS shk_112 58 = true := by decide +kernel
def shk_113 : List Shp := shk_112 ++ [.inl (1, 8, [])]
theorem os_113 : okS shk_113 59 = true := by decide +kernel
def shk_114 : List Shp := shk_113.set 55 (.inr (0, [(0, 0), (1, 0), (2, 0), (3, 56), (3, 57), (0, 0), (3, 58), (0, 0)]))
theorem os_114 : okS shk_114 59 = true := by decide +kernel
set_option maxHeartbeats 8000000 in
set_option maxRecDepth 100000 in
theorem n_X0_init_55 {l : Launch} {E : Ev} {a : Nat} {M : Mm} (hH : eH E = shk_108) (h_55 : eA E 55 = a) (hZ : Zr 56 M) : MetN l yX0_init cX0_init 1 1 3 88 E [.ref a] M 56 shk_114 M := by
  refine MetK.of (by decide +kernel) (Nat.le_of_ble_eq_true rfl) ?_
  intro p e s m below meth c C hr hnm
  refine G.sub [0] (L' := [(0, .ref a)]) rfl ?_
  have sm : Sm E E 56 := Sm.rf
  refine G.aload_n C 0 dX0_init_0 rfl rfl ?_
  refine G.objInit C tg_367 tg_122 tg_123 ⟨(Nat.le_of_ble_eq_true rfl), (Nat.le_of_ble_eq_true rfl)⟩ (Nat.le_of_ble_eq_true rfl) dX0_init_1 ?_
  refine G.aload_n C 0 dX0_init_4 rfl rfl ?_
  refine G.bipush (v := (40 : Int32)) C dX0_init_5 (by decide) ?_
  refine G.kI (N := 40) C hH os_108 tg_192 hZ (by decide) (by decide) (by decide) (Nat.le_of_ble_eq_true rfl) (Nat.le_of_ble_eq_true rfl) dX0_init_7 (fun E1 q1 C hH sm1 h_56 => ?_)
  have hH : eH E1 = shk_109 := hH
  have sm := Sm.tr sm sm1 (Nat.le_of_ble_eq_true rfl)
  have h_55 := Sm.at sm1 (Nat.le_of_ble_eq_true rfl) h_55
  have hZ := Zr.up hZ (k := 57) (Nat.le_of_ble_eq_true rfl)
  refine G.kP (n := 57) (q := 55) (k := 3) (t := 56) (w := 0) (sh2 := shk_110) (fs := [(0, 0), (1, 0), (2, 0), (4, 0), (4, 0), (0, 0), (4, 0), (0, 0)]) C hH k_X0 (by decide +kernel) rfl (by decide) tg_374 rfl hnm rfl rfl rfl h_56 h_55 rfl dX0_init_9 (fun E2 C hH sm1 => ?_)
  have sm := Sm.tr sm sm1 (Nat.le_of_ble_eq_true rfl)
  have h_55 := Sm.at sm1 (Nat.le_of_ble_eq_true rfl) h_55
  refine G.aload_n C 0 dX0_init_12 rfl rfl ?_
  refine G.bipush (v := (40 : Int32)) C dX0_init_13 (by decide) ?_
  refine G.kJ (N := 40) C hH os_110 tg_193 hZ (by decide) (by decide) (by decide) (Nat.le_of_ble_eq_true rfl) (Nat.le_of_ble_eq_true rfl) dX0_init_15 (fun E3 q3 C hH sm1 h_57 => ?_)
  have hH : eH E3 = shk_111 := hH
  have sm := Sm.tr sm sm1 (Nat.le_of_ble_eq_true rfl)
  have h_55 := Sm.at sm1 (Nat.le_of_ble_eq_true rfl) h_55
  have hZ := Zr.up hZ (k := 58) (Nat.le_of_ble_eq_true rfl)
  refine G.kP (n := 58) (q := 55) (k := 4) (t := 57) (w := 0) (sh2 := shk_112) (fs := [(0, 0), (1, 0), (2, 0), (3, 56), (4, 0), (0, 0), (4, 0), (0, 0)]) C hH k_X0 (by decide +kernel) rfl (by decide) tg_375 rfl hnm rfl rfl rfl h_57 h_55 rfl dX0_init_17 (fun E4 C hH sm1 => ?_)
  have sm := Sm.tr sm sm1 (Nat.le_of_ble_eq_true rfl)
  have h_55 := Sm.at sm1 (Nat.le_of_ble_eq_true rfl) h_55
  refine G.aload_n C 0 dX0_init_20 rfl rfl ?_
  refine G.bipush (v := (8 : Int32)) C dX0_init_21 (by decide) ?_
  refine G.kJ (N := 8) C hH os_112 tg_193 hZ (by decide) (by decide) (by decide) (Nat.le_of_ble_eq_true rfl) (Nat.le_of_ble_eq_true rfl) dX0_init_23 (fun E5 q5 C hH sm1 h_58 => ?_)
  have hH : eH E5 = shk_113 := hH
  have sm := Sm.tr sm sm1 (Nat.le_of_ble_eq_true rfl)
  have h_55 := Sm.at sm1 (Nat.le_of_ble_eq_true rfl) h_55
  have hZ := Zr.up hZ (k := 59) (Nat.le_of_ble_eq_true rfl)
  refine G.kP (n := 59) (q := 55) (k := 6) (t := 58) (w := 0) (sh2 := shk_114) (fs := [(0, 0), (1, 0), (2, 0), (3, 56), (3, 57), (0, 0), (4, 0), (0, 0)]) C hH k_X0 (by decide +kernel) rfl (by decide) tg_378 rfl hnm rfl rfl rfl h_58 h_55 rfl dX0_init_25 (fun E6 C hH sm1 => ?_)
  have sm := Sm.tr sm sm1 (Nat.le_of_ble_eq_true rfl)
  have h_55 := Sm.at sm1 (Nat.le_of_ble_eq_true rfl) h_55
  exact G.kR C sm hH os_114 hr dX0_init_28
def shk_115 : List Shp := shk_114.set 54 (.inl (3, 3, [55]))
theorem os_115 : okS shk_115 59 = true := by decide +kernel
def shk_116 : List Shp := shk_115 ++ [.inr (0, [(0, 0), (1, 0), (2, 0), (4, 0), (4, 0), (0, 0), (4, 0), (0, 0)])]
theorem os_116 : okS shk_116 60 = true := by decide +kernel
def shk_117 : List Shp := shk_116 ++ [.inl (0, 40, [])]
theorem os_117 : okS shk_117 61 = true := by decide +kernel
def shk_118 : List Shp := shk_117.set 59 (.inr (0, [(0, 0), (1, 0), (2, 0), (3, 60), (4, 0), (0, 0), (4, 0), (0, 0)]))
theorem os_118 : okS shk_118 61 = true := by decide +kernel
def shk_119 : List Shp := shk_118 ++ [.inl (1, 40, [])]
theorem os_119 : okS shk_119 62 = true := by decide +kernel
def shk_120 : List Shp := shk_119.set 59 (.inr (0, [(0, 0), (1, 0), (2, 0), (3, 60), (3, 61), (0, 0), (4, 0), (0, 0)]))
theorem os_120 : okS shk_120 62 = true := by decide +kernel
def shk_121 : List Shp := shk_120 ++ [.inl (1, 8, [])]
theorem os_121 : okS shk_121 63 = true := by decide +kernel
def shk_122 : List Shp := shk_121.set 59 (.inr (0, [(0, 0), (1, 0), (2, 0), (3, 60), (3, 61), (0, 0), (3, 62), (0, 0)]))
theorem os_122 : okS shk_122 63 = true := by decide +kernel
set_option maxHeartbeats 8000000 in
set_option maxRecDepth 100000 in
theorem n_X0_init_59 {l : Launch} {E : Ev} {a : Nat} {M : Mm} (hH : eH E = shk_116) (h_59 : eA E 59 = a) (hZ : Zr 60 M) : MetN l yX0_init cX0_init 1 1 3 88 E [.ref a] M 60 shk_122 M := by
  refine MetK.of (by decide +kernel) (Nat.le_of_ble_eq_true rfl) ?_
  intro p e s m below meth c C hr hnm
  refine G.sub [0] (L' := [(0, .ref a)]) rfl ?_
  have sm : Sm E E 60 := Sm.rf
  refine G.aload_n C 0 dX0_init_0 rfl rfl ?_
  refine G.objInit C tg_367 tg_122 tg_123 ⟨(Nat.le_of_ble_eq_true rfl), (Nat.le_of_ble_eq_true rfl)⟩ (Nat.le_of_ble_eq_true rfl) dX0_init_1 ?_
  refine G.aload_n C 0 dX0_init_4 rfl rfl ?_
  refine G.bipush (v := (40 : Int32)) C dX0_init_5 (by decide) ?_
  refine G.kI (N := 40) C hH os_116 tg_192 hZ (by decide) (by decide) (by decide) (Nat.le_of_ble_eq_true rfl) (Nat.le_of_ble_eq_true rfl) dX0_init_7 (fun E1 q1 C hH sm1 h_60 => ?_)
  have hH : eH E1 = shk_117 := hH
  have sm := Sm.tr sm sm1 (Nat.le_of_ble_eq_true rfl)
  have h_59 := Sm.at sm1 (Nat.le_of_ble_eq_true rfl) h_59
  have hZ := Zr.up hZ (k := 61) (Nat.le_of_ble_eq_true rfl)
  refine G.kP (n := 61) (q := 59) (k := 3) (t := 60) (w := 0) (sh2 := shk_118) (fs := [(0, 0), (1, 0), (2, 0), (4, 0), (4, 0), (0, 0), (4, 0), (0, 0)]) C hH k_X0 (by decide +kernel) rfl (by decide) tg_374 rfl hnm rfl rfl rfl h_60 h_59 rfl dX0_init_9 (fun E2 C hH sm1 => ?_)
  have sm := Sm.tr sm sm1 (Nat.le_of_ble_eq_true rfl)
  have h_59 := Sm.at sm1 (Nat.le_of_ble_eq_true rfl) h_59
  refine G.aload_n C 0 dX0_init_12 rfl rfl ?_
  refine G.bipush (v := (40 : Int32)) C dX0_init_13 (by decide) ?_
  refine G.kJ (N := 40) C hH os_118 tg_193 hZ (by decide) (by decide) (by decide) (Nat.le_of_ble_eq_true rfl) (Nat.le_of_ble_eq_true rfl) dX0_init_15 (fun E3 q3 C hH sm1 h_61 => ?_)
  have hH : eH E3 = shk_119 := hH
  have sm := Sm.tr sm sm1 (Nat.le_of_ble_eq_true rfl)
  have h_59 := Sm.at sm1 (Nat.le_of_ble_eq_true rfl) h_59
  have hZ := Zr.up hZ (k := 62) (Nat.le_of_ble_eq_true rfl)
  refine G.kP (n := 62) (q := 59) (k := 4) (t := 61) (w := 0) (sh2 := shk_120) (fs := [(0, 0), (1, 0), (2, 0), (3, 60), (4, 0), (0, 0), (4, 0), (0, 0)]) C hH k_X0 (by decide +kernel) rfl (by decide) tg_375 rfl hnm rfl rfl rfl h_61 h_59 rfl dX0_init_17 (fun E4 C hH sm1 => ?_)
  have sm := Sm.tr sm sm1 (Nat.le_of_ble_eq_true rfl)
  have h_59 := Sm.at sm1 (Nat.le_of_ble_eq_true rfl) h_59
  refine G.aload_n C 0 dX0_init_20 rfl rfl ?_
  refine G.bipush (v := (8 : Int32)) C dX0_init_21 (by decide) ?_
  refine G.kJ (N := 8) C hH os_120 tg_193 hZ (by decide) (by decide) (by decide) (Nat.le_of_ble_eq_true rfl) (Nat.le_of_ble_eq_true rfl) dX0_init_23 (fun E5 q5 C hH sm1 h_62 => ?_)
  have hH : eH E5 = shk_121 := hH
  have sm := Sm.tr sm sm1 (Nat.le_of_ble_eq_true rfl)
  have h_59 := Sm.at sm1 (Nat.le_of_ble_eq_true rfl) h_59
  have hZ := Zr.up hZ (k := 63) (Nat.le_of_ble_eq_true rfl)
  refine G.kP (n := 63) (q := 59) (k := 6) (t := 62) (w := 0) (sh2 := shk_122) (fs := [(0, 0), (1, 0), (2, 0), (3, 60), (3, 61), (0, 0), (4, 0), (0, 0)]) C hH k_X0 (by decide +kernel) rfl (by decide) tg_378 rfl hnm rfl rfl rfl h_62 h_59 rfl dX0_init_25 (fun E6 C hH sm1 => ?_)
  have sm := Sm.tr sm sm1 (Nat.le_of_ble_eq_true rfl)
  have h_59 := Sm.at sm1 (Nat.le_of_ble_eq_true rfl) h_59
  exact G.kR C sm hH os_122 hr dX0_init_28
def shk_123 : List Shp := shk_122.set 54 (.inl (3, 3, [55, 59]))
theorem os_123 : okS shk_123 63 = true := by decide +kernel
def shk_124 : List Shp := shk_123 ++ [.inr (0, [(0, 0), (1, 0), (2, 0), (4, 0), (4, 0), (0, 0), (4, 0), (0, 0)])]
theorem os_124 : okS shk_124 64 = true := by decide +kernel
def shk_125 : List Shp := shk_124 ++ [.inl (0, 40, [])]
theorem os_125 : okS shk_125 65 = true := by decide +kernel
def shk_126 : List Shp := shk_125.set 63 (.inr (0, [(0, 0), (1, 0), (2, 0), (3, 64), (4, 0), (0, 0), (4, 0), (0, 0)]))
theorem os_126 : okS shk_126 65 = true := by decide +kernel
def shk_127 : List Shp := shk_126 ++ [.inl (1, 40, [])]
theorem os_127 : okS shk_127 66 = true := by decide +kernel
def shk_128 : List Shp := shk_127.set 63 (.inr (0, [(0, 0), (1, 0), (2, 0), (3, 64), (3, 65), (0, 0), (4, 0), (0, 0)]))
theorem os_128 : okS shk_128 66 = true := by decide +kernel
def shk_129 : List Shp := shk_128 ++ [.inl (1, 8, [])]
theorem os_129 : okS shk_129 67 = true := by decide +kernel
def shk_130 : List Shp := shk_129.set 63 (.inr (0, [(0, 0), (1, 0), (2, 0), (3, 64), (3, 65), (0, 0), (3, 66), (0, 0)]))
theorem os_130 : okS shk_130 67 = true := by decide +kernel
set_option maxHeartbeats 8000000 in
set_option maxRecDepth 100000 in
theorem n_X0_init_63 {l : Launch} {E : Ev} {a : Nat} {M : Mm} (hH : eH E = shk_124) (h_63 : eA E 63 = a) (hZ : Zr 64 M) : MetN l yX0_init cX0_init 1 1 3 88 E [.ref a] M 64 shk_130 M := by
  refine MetK.of (by decide +kernel) (Nat.le_of_ble_eq_true rfl) ?_
  intro p e s m below meth c C hr hnm
  refine G.sub [0] (L' := [(0, .ref a)]) rfl ?_
  have sm : Sm E E 64 := Sm.rf
  refine G.aload_n C 0 dX0_init_0 rfl rfl ?_
  refine G.objInit C tg_367 tg_122 tg_123 ⟨(Nat.le_of_ble_eq_true rfl), (Nat.le_of_ble_eq_true rfl)⟩ (Nat.le_of_ble_eq_true rfl) dX0_init_1 ?_
  refine G.aload_n C 0 dX0_init_4 rfl rfl ?_
  refine G.bipush (v := (40 : Int32)) C dX0_init_5 (by decide) ?_
  refine G.kI (N := 40) C hH os_124 tg_192 hZ (by decide) (by decide) (by decide) (Nat.le_of_ble_eq_true rfl) (Nat.le_of_ble_eq_true rfl) dX0_init_7 (fun E1 q1 C hH sm1 h_64 => ?_)
  have hH : eH E1 = shk_125 := hH
  have sm := Sm.tr sm sm1 (Nat.le_of_ble_eq_true rfl)
  have h_63 := Sm.at sm1 (Nat.le_of_ble_eq_true rfl) h_63
  have hZ := Zr.up hZ (k := 65) (Nat.le_of_ble_eq_true rfl)
  refine G.kP (n := 65) (q := 63) (k := 3) (t := 64) (w := 0) (sh2 := shk_126) (fs := [(0, 0), (1, 0), (2, 0), (4, 0), (4, 0), (0, 0), (4, 0), (0, 0)]) C hH k_X0 (by decide +kernel) rfl (by decide) tg_374 rfl hnm rfl rfl rfl h_64 h_63 rfl dX0_init_9 (fun E2 C hH sm1 => ?_)
  have sm := Sm.tr sm sm1 (Nat.le_of_ble_eq_true rfl)
  have h_63 := Sm.at sm1 (Nat.le_of_ble_eq_true rfl) h_63
  refine G.aload_n C 0 dX0_init_12 rfl rfl ?_
  refine G.bipush (v := (40 : Int32)) C dX0_init_13 (by decide) ?_
  refine G.kJ (N := 40) C hH os_126 tg_193 hZ (by decide) (by decide) (by decide) (Nat.le_of_ble_eq_true rfl) (Nat.le_of_ble_eq_true rfl) dX0_init_15 (fun E3 q3 C hH sm1 h_65 => ?_)
  have hH : eH E3 = shk_127 := hH
  have sm := Sm.tr sm sm1 (Nat.le_of_ble_eq_true rfl)
  have h_63 := Sm.at sm1 (Nat.le_of_ble_eq_true rfl) h_63
  have hZ := Zr.up hZ (k := 66) (Nat.le_of_ble_eq_true rfl)
  refine G.kP (n := 66) (q := 63) (k := 4) (t := 65) (w := 0) (sh2 := shk_128) (fs := [(0, 0), (1, 0), (2, 0), (3, 64), (4, 0), (0, 0), (4, 0), (0, 0)]) C hH k_X0 (by decide +kernel) rfl (by decide) tg_375 rfl hnm rfl rfl rfl h_65 h_63 rfl dX0_init_17 (fun E4 C hH sm1 => ?_)
  have sm := Sm.tr sm sm1 (Nat.le_of_ble_eq_true rfl)
  have h_63 := Sm.at sm1 (Nat.le_of_ble_eq_true rfl) h_63
  refine G.aload_n C 0 dX0_init_20 rfl rfl ?_
  refine G.bipush (v := (8 : Int32)) C dX0_init_21 (by decide) ?_
  refine G.kJ (N := 8) C hH os_128 tg_193 hZ (by decide) (by decide) (by decide) (Nat.le_of_ble_eq_true rfl) (Nat.le_of_ble_eq_true rfl) dX0_init_23 (fun E5 q5 C hH sm1 h_66 => ?_)
  have hH : eH E5 = shk_129 := hH
  have sm := Sm.tr sm sm1 (Nat.le_of_ble_eq_true rfl)
  have h_63 := Sm.at sm1 (Nat.le_of_ble_eq_true rfl) h_63
  have hZ := Zr.up hZ (k := 67) (Nat.le_of_ble_eq_true rfl)
  refine G.kP (n := 67) (q := 63) (k := 6) (t := 66) (w := 0) (sh2 := shk_130) (fs := [(0, 0), (1, 0), (2, 0), (3, 64), (3, 65), (0, 0), (4, 0), (0, 0)]) C hH k_X0 (by decide +kernel) rfl (by decide) tg_378 rfl hnm rfl rfl rfl h_66 h_63 rfl dX0_init_25 (fun E6 C hH sm1 => ?_)
  have sm := Sm.tr sm sm1 (Nat.le_of_ble_eq_true rfl)
  have h_63 := Sm.at sm1 (Nat.le_of_ble_eq_true rfl) h_63
  exact G.kR C sm hH os_130 hr dX0_init_28
def shk_131 : List Shp := shk_130.set 54 (.inl (3, 3, [55, 59, 63]))
theorem os_131 : okS shk_131 67 = true := by decide +kernel
def shk_132 : List Shp := shk_131.set 0 (.inr (8, [(3, 1), (3, 11), (0, 0), (3, 19), (3, 24), (3, 30), (3, 34), (3, 44), (3, 50), (3, 54), (0, 0)]))
theorem os_132 : okS shk_132 67 = true := by decide +kernel
def mk_5 (M : Mm) : Mm := wI (mk_4 M) 0 2 (-1 : Int32)
theorem zk_5 {M : Mm} {n : Nat} (hn : 67 ≤ n) (h : Zr n M) : Zr n (mk_5 M) := Zr.w (zk_4 (Nat.le_trans (Nat.le_of_ble_eq_true rfl) hn) h) (by omega)
def mk_10 (M : Mm) : Mm := wI (mk_9 (mk_5 M)) 0 10 (0 : Int32)
theorem zk_10 {M : Mm} {n : Nat} (hn : 67 ≤ n) (h : Zr n M) : Zr n (mk_10 M) := Zr.w (zk_9 (Nat.le_trans (Nat.le_of_ble_eq_true rfl) hn) (zk_5 hn h)) (by omega)
set_option maxHeartbeats 8000000 in
set_option maxRecDepth 100000 in
theorem n_X9_init_0 {l : Launch} {E : Ev} {a : Nat} {M : Mm} {m1 : Mm} {m2 : Mm} {m3 : Mm} {m4 : Mm} (hH : eH E = shk_0) (h_0 : eA E 0 = a) (hZ : Zr 1 M) (h1 : f_X7_wipe_11 (mk_10 M) = some m1) (h2 : f_X0_wipe_50 m1 = some m2) (h3 : f_X1_lay_24_11 m2 = some m3) (h4 : f_X6_lay_34_11 m3 = some m4) : MetN l yX9_init cX9_init 1 5 66 2593 E [.ref a] M 1 shk_132 m4 := by
  refine MetK.of (by decide +kernel) (Nat.le_of_ble_eq_true rfl) ?_
  intro p e s m below meth c C hr hnm
  refine G.sub [0] (L' := [(0, .ref a)]) rfl ?_
  have sm : Sm E E 1 := Sm.rf
  refine G.aload_n C 0 dX9_init_0 rfl rfl ?_
  refine G.objInit C tg_121 tg_122 tg_123 ⟨(Nat.le_of_ble_eq_true rfl), (Nat.le_of_ble_eq_true rfl)⟩ (Nat.le_of_ble_eq_true rfl) dX9_init_1 ?_
  refine G.aload_n C 0 dX9_init_4 rfl rfl ?_
  refine G.kO C hH os_0 k_X8 [(4, 0), (4, 0), (0, 0), (0, 0), (0, 0), (0, 0), (0, 0)] tg_124 tg_125 tg_91 hZ (by decide +kernel) (by decide +kernel) (Nat.le_of_ble_eq_true rfl) (Nat.le_of_ble_eq_true rfl) dX9_init_5 (fun E1 q1 C hH sm1 h_1 => ?_)
  have hH : eH E1 = shk_1 := hH
  have sm := Sm.tr sm sm1 (Nat.le_of_ble_eq_true rfl)
  have h_0 := Sm.at sm1 (Nat.le_of_ble_eq_true rfl) h_0
  have hZ := Zr.up hZ (k := 2) (Nat.le_of_ble_eq_true rfl)
  refine G.dup C dX9_init_8 rfl ?_
  refine G.kC (rest := [.ref q1, .ref a]) C (n_X8_init_1 hH h_1 hZ) hH os_1 os_19 (Nat.le_of_ble_eq_true rfl) ⟨tg_128, tg_91, ok_X8_init, (Nat.le_of_ble_eq_true rfl), (Nat.le_of_ble_eq_true rfl)⟩ tg_127 rfl (Or.inr ⟨_, tw_126⟩) (Nat.le_of_ble_eq_true rfl) dX9_init_9 ⟨(Nat.le_of_ble_eq_true rfl), (Nat.le_of_ble_eq_true rfl)⟩ (fun E2 C hH sm1 => ?_)
  have sm := Sm.tr sm sm1 (Nat.le_of_ble_eq_true rfl)
  have h_0 := Sm.at sm1 (Nat.le_of_ble_eq_true rfl) h_0
  have h_1 := Sm.at sm1 (Nat.le_of_ble_eq_true rfl) h_1
  have hZ := zk_4 (Nat.le_refl 11) (Zr.up hZ (k := 11) (Nat.le_of_ble_eq_true rfl))
  refine G.kP (n := 11) (q := 0) (k := 0) (t := 1) (w := 0) (sh2 := shk_20) (fs := [(4, 0), (4, 0), (0, 0), (4, 0), (4, 0), (4, 0), (4, 0), (4, 0), (4, 0), (4, 0), (0, 0)]) C hH k_X9 (by decide +kernel) rfl (by decide) tg_479 rfl hnm rfl rfl rfl h_1 h_0 rfl dX9_init_12 (fun E3 C hH sm1 => ?_)
  have sm := Sm.tr sm sm1 (Nat.le_of_ble_eq_true rfl)
  have h_0 := Sm.at sm1 (Nat.le_of_ble_eq_true rfl) h_0
  refine G.aload_n C 0 dX9_init_15 rfl rfl ?_
  refine G.kO C hH os_20 k_X7 [(4, 0), (4, 0), (4, 0), (4, 0), (4, 0), (4, 0), (4, 0), (0, 0), (0, 0), (0, 0)] tg_219 tg_131 tg_92 hZ (by decide +kernel) (by decide +kernel) (Nat.le_of_ble_eq_true rfl) (Nat.le_of_ble_eq_true rfl) dX9_init_16 (fun E4 q4 C hH sm1 h_11 => ?_)
  have hH : eH E4 = shk_21 := hH
  have sm := Sm.tr sm sm1 (Nat.le_of_ble_eq_true rfl)
  have h_0 := Sm.at sm1 (Nat.le_of_ble_eq_true rfl) h_0
  have hZ := Zr.up hZ (k := 12) (Nat.le_of_ble_eq_true rfl)
  refine G.dup C dX9_init_19 rfl ?_
  refine G.kC (rest := [.ref q4, .ref a]) C (n_X7_init_11 hH h_11 hZ) hH os_21 os_35 (Nat.le_of_ble_eq_true rfl) ⟨tg_134, tg_92, ok_X7_init, (Nat.le_of_ble_eq_true rfl), (Nat.le_of_ble_eq_true rfl)⟩ tg_133 rfl (Or.inr ⟨_, tw_220⟩) (Nat.le_of_ble_eq_true rfl) dX9_init_20 ⟨(Nat.le_of_ble_eq_true rfl), (Nat.le_of_ble_eq_true rfl)⟩ (fun E5 C hH sm1 => ?_)
  have sm := Sm.tr sm sm1 (Nat.le_of_ble_eq_true rfl)
  have h_0 := Sm.at sm1 (Nat.le_of_ble_eq_true rfl) h_0
  have h_11 := Sm.at sm1 (Nat.le_of_ble_eq_true rfl) h_11
  have hZ := Zr.up hZ (k := 19) (Nat.le_of_ble_eq_true rfl)
  refine G.kP (n := 19) (q := 0) (k := 1) (t := 11) (w := 0) (sh2 := shk_36) (fs := [(3, 1), (4, 0), (0, 0), (4, 0), (4, 0), (4, 0), (4, 0), (4, 0), (4, 0), (4, 0), (0, 0)]) C hH k_X9 (by decide +kernel) rfl (by decide) tg_480 rfl hnm rfl rfl rfl h_11 h_0 rfl dX9_init_23 (fun E6 C hH sm1 => ?_)
  have sm := Sm.tr sm sm1 (Nat.le_of_ble_eq_true rfl)
  have h_0 := Sm.at sm1 (Nat.le_of_ble_eq_true rfl) h_0
  refine G.aload_n C 0 dX9_init_26 rfl rfl ?_
  refine G.iconst (v := (-1 : Int32)) C dX9_init_27 (by decide) ?_
  refine G.putIa (q := 0) (k := 2) (fs := [(3, 1), (3, 11), (0, 0), (4, 0), (4, 0), (4, 0), (4, 0), (4, 0), (4, 0), (4, 0), (0, 0)]) (M' := (mk_5 M)) C hH h_0 k_X9 (by decide +kernel) rfl (by decide) tg_481 rfl rfl dX9_init_28 rfl ?_
  have hZ : Zr 19 (mk_5 M) := Zr.w hZ (Nat.le_of_ble_eq_true rfl)
  refine G.aload_n C 0 dX9_init_31 rfl rfl ?_
  refine G.kO C hH os_36 k_X3 [(4, 0), (4, 0), (4, 0), (4, 0)] tg_221 tg_222 tg_93 hZ (by decide +kernel) (by decide +kernel) (Nat.le_of_ble_eq_true rfl) (Nat.le_of_ble_eq_true rfl) dX9_init_32 (fun E7 q7 C hH sm1 h_19 => ?_)
  have hH : eH E7 = shk_37 := hH
  have sm := Sm.tr sm sm1 (Nat.le_of_ble_eq_true rfl)
  have h_0 := Sm.at sm1 (Nat.le_of_ble_eq_true rfl) h_0
  have hZ := Zr.up hZ (k := 20) (Nat.le_of_ble_eq_true rfl)
  refine G.dup C dX9_init_35 rfl ?_
  refine G.kC (rest := [.ref q7, .ref a]) C (n_X3_init_19 hH h_19 hZ) hH os_37 os_45 (Nat.le_of_ble_eq_true rfl) ⟨tg_225, tg_93, ok_X3_init, (Nat.le_of_ble_eq_true rfl), (Nat.le_of_ble_eq_true rfl)⟩ tg_224 rfl (Or.inr ⟨_, tw_223⟩) (Nat.le_of_ble_eq_true rfl) dX9_init_36 ⟨(Nat.le_of_ble_eq_true rfl), (Nat.le_of_ble_eq_true rfl)⟩ (fun E8 C hH sm1 => ?_)
  have sm := Sm.tr sm sm1 (Nat.le_of_ble_eq_true rfl)
  have h_0 := Sm.at sm1 (Nat.le_of_ble_eq_true rfl) h_0
  have h_19 := Sm.at sm1 (Nat.le_of_ble_eq_true rfl) h_19
  have hZ := Zr.up hZ (k := 24) (Nat.le_of_ble_eq_true rfl)
  refine G.kP (n := 24) (q := 0) (k := 3) (t := 19) (w := 0) (sh2 := shk_46) (fs := [(3, 1), (3, 11), (0, 0), (4, 0), (4, 0), (4, 0), (4, 0), (4, 0), (4, 0), (4, 0), (0, 0)]) C hH k_X9 (by decide +kernel) rfl (by decide) tg_482 rfl hnm rfl rfl rfl h_19 h_0 rfl dX9_init_39 (fun E9 C hH sm1 => ?_)
  have sm := Sm.tr sm sm1 (Nat.le_of_ble_eq_true rfl)
  have h_0 := Sm.at sm1 (Nat.le_of_ble_eq_true rfl) h_0
  refine G.aload_n C 0 dX9_init_42 rfl rfl ?_
  refine G.kO C hH os_46 k_X1 [(4, 0), (4, 0), (4, 0), (4, 0), (4, 0), (0, 0)] tg_240 tg_241 tg_94 hZ (by decide +kernel) (by decide +kernel) (Nat.le_of_ble_eq_true rfl) (Nat.le_of_ble_eq_true rfl) dX9_init_43 (fun E10 q10 C hH sm1 h_24 => ?_)
  have hH : eH E10 = shk_47 := hH
  have sm := Sm.tr sm sm1 (Nat.le_of_ble_eq_true rfl)
  have h_0 := Sm.at sm1 (Nat.le_of_ble_eq_true rfl) h_0
  have hZ := Zr.up hZ (k := 25) (Nat.le_of_ble_eq_true rfl)
  refine G.dup C dX9_init_46 rfl ?_
  refine G.kC (rest := [.ref q10, .ref a]) C (n_X1_init_24 hH h_24 hZ) hH os_47 os_57 (Nat.le_of_ble_eq_true rfl) ⟨tg_244, tg_94, ok_X1_init, (Nat.le_of_ble_eq_true rfl), (Nat.le_of_ble_eq_true rfl)⟩ tg_243 rfl (Or.inr ⟨_, tw_242⟩) (Nat.le_of_ble_eq_true rfl) dX9_init_47 ⟨(Nat.le_of_ble_eq_true rfl), (Nat.le_of_ble_eq_true rfl)⟩ (fun E11 C hH sm1 => ?_)
  have sm := Sm.tr sm sm1 (Nat.le_of_ble_eq_true rfl)
  have h_0 := Sm.at sm1 (Nat.le_of_ble_eq_true rfl) h_0
  have h_24 := Sm.at sm1 (Nat.le_of_ble_eq_true rfl) h_24
  have hZ := Zr.up hZ (k := 30) (Nat.le_of_ble_eq_true rfl)
  refine G.kP (n := 30) (q := 0) (k := 4) (t := 24) (w := 0) (sh2 := shk_58) (fs := [(3, 1), (3, 11), (0, 0), (3, 19), (4, 0), (4, 0), (4, 0), (4, 0), (4, 0), (4, 0), (0, 0)]) C hH k_X9 (by decide +kernel) rfl (by decide) tg_483 rfl hnm rfl rfl rfl h_24 h_0 rfl dX9_init_50 (fun E12 C hH sm1 => ?_)
  have sm := Sm.tr sm sm1 (Nat.le_of_ble_eq_true rfl)
  have h_0 := Sm.at sm1 (Nat.le_of_ble_eq_true rfl) h_0
  refine G.aload_n C 0 dX9_init_53 rfl rfl ?_
  refine G.kO C hH os_58 k_X2 [(4, 0), (4, 0), (4, 0), (0, 0), (0, 0), (2, 0)] tg_265 tg_266 tg_95 hZ (by decide +kernel) (by decide +kernel) (Nat.le_of_ble_eq_true rfl) (Nat.le_of_ble_eq_true rfl) dX9_init_54 (fun E13 q13 C hH sm1 h_30 => ?_)
  have hH : eH E13 = shk_59 := hH
  have sm := Sm.tr sm sm1 (Nat.le_of_ble_eq_true rfl)
  have h_0 := Sm.at sm1 (Nat.le_of_ble_eq_true rfl) h_0
  have hZ := Zr.up hZ (k := 31) (Nat.le_of_ble_eq_true rfl)
  refine G.dup C dX9_init_57 rfl ?_
  refine G.kC (rest := [.ref q13, .ref a]) C (n_X2_init_30 hH h_30 hZ) hH os_59 os_65 (Nat.le_of_ble_eq_true rfl) ⟨tg_269, tg_95, ok_X2_init, (Nat.le_of_ble_eq_true rfl), (Nat.le_of_ble_eq_true rfl)⟩ tg_268 rfl (Or.inr ⟨_, tw_267⟩) (Nat.le_of_ble_eq_true rfl) dX9_init_58 ⟨(Nat.le_of_ble_eq_true rfl), (Nat.le_of_ble_eq_true rfl)⟩ (fun E14 C hH sm1 => ?_)
  have sm := Sm.tr sm sm1 (Nat.le_of_ble_eq_true rfl)
  have h_0 := Sm.at sm1 (Nat.le_of_ble_eq_true rfl) h_0
  have h_30 := Sm.at sm1 (Nat.le_of_ble_eq_true rfl) h_30
  have hZ := Zr.up hZ (k := 34) (Nat.le_of_ble_eq_true rfl)
  refine G.kP (n := 34) (q := 0) (k := 5) (t := 30) (w := 0) (sh2 := shk_66) (fs := [(3, 1), (3, 11), (0, 0), (3, 19), (3, 24), (4, 0), (4, 0), (4, 0), (4, 0), (4, 0), (0, 0)]) C hH k_X9 (by decide +kernel) rfl (by decide) tg_484 rfl hnm rfl rfl rfl h_30 h_0 rfl dX9_init_61 (fun E15 C hH sm1 => ?_)
  have sm := Sm.tr sm sm1 (Nat.le_of_ble_eq_true rfl)
  have h_0 := Sm.at sm1 (Nat.le_of_ble_eq_true rfl) h_0
  refine G.aload_n C 0 dX9_init_64 rfl rfl ?_
  refine G.kO C hH os_66 k_X6 [(0, 0), (0, 0), (4, 0), (4, 0), (4, 0), (4, 0), (4, 0), (4, 0), (4, 0), (4, 0), (4, 0), (0, 0), (0, 0)] tg_290 tg_291 tg_96 hZ (by decide +kernel) (by decide +kernel) (Nat.le_of_ble_eq_true rfl) (Nat.le_of_ble_eq_true rfl) dX9_init_65 (fun E16 q16 C hH sm1 h_34 => ?_)
  have hH : eH E16 = shk_67 := hH
  have sm := Sm.tr sm sm1 (Nat.le_of_ble_eq_true rfl)
  have h_0 := Sm.at sm1 (Nat.le_of_ble_eq_true rfl) h_0
  have hZ := Zr.up hZ (k := 35) (Nat.le_of_ble_eq_true rfl)
  refine G.dup C dX9_init_68 rfl ?_
  refine G.kC (rest := [.ref q16, .ref a]) C (n_X6_init_34 hH h_34 hZ) hH os_67 os_85 (Nat.le_of_ble_eq_true rfl) ⟨tg_294, tg_96, ok_X6_init, (Nat.le_of_ble_eq_true rfl), (Nat.le_of_ble_eq_true rfl)⟩ tg_293 rfl (Or.inr ⟨_, tw_292⟩) (Nat.le_of_ble_eq_true rfl) dX9_init_69 ⟨(Nat.le_of_ble_eq_true rfl), (Nat.le_of_ble_eq_true rfl)⟩ (fun E17 C hH sm1 => ?_)
  have sm := Sm.tr sm sm1 (Nat.le_of_ble_eq_true rfl)
  have h_0 := Sm.at sm1 (Nat.le_of_ble_eq_true rfl) h_0
  have h_34 := Sm.at sm1 (Nat.le_of_ble_eq_true rfl) h_34
  have hZ := zk_9 (Nat.le_refl 44) (Zr.up hZ (k := 44) (Nat.le_of_ble_eq_true rfl))
  refine G.kP (n := 44) (q := 0) (k := 6) (t := 34) (w := 0) (sh2 := shk_86) (fs := [(3, 1), (3, 11), (0, 0), (3, 19), (3, 24), (3, 30), (4, 0), (4, 0), (4, 0), (4, 0), (0, 0)]) C hH k_X9 (by decide +kernel) rfl (by decide) tg_485 rfl hnm rfl rfl rfl h_34 h_0 rfl dX9_init_72 (fun E18 C hH sm1 => ?_)
  have sm := Sm.tr sm sm1 (Nat.le_of_ble_eq_true rfl)
  have h_0 := Sm.at sm1 (Nat.le_of_ble_eq_true rfl) h_0
  refine G.aload_n C 0 dX9_init_75 rfl rfl ?_
  refine G.kO C hH os_86 k_X5 [(4, 0), (4, 0), (4, 0), (4, 0), (4, 0), (0, 0)] tg_336 tg_337 tg_97 hZ (by decide +kernel) (by decide +kernel) (Nat.le_of_ble_eq_true rfl) (Nat.le_of_ble_eq_true rfl) dX9_init_76 (fun E19 q19 C hH sm1 h_44 => ?_)
  have hH : eH E19 = shk_87 := hH
  have sm := Sm.tr sm sm1 (Nat.le_of_ble_eq_true rfl)
  have h_0 := Sm.at sm1 (Nat.le_of_ble_eq_true rfl) h_0
  have hZ := Zr.up hZ (k := 45) (Nat.le_of_ble_eq_true rfl)
  refine G.dup C dX9_init_79 rfl ?_
  refine G.kC (rest := [.ref q19, .ref a]) C (n_X5_init_44 hH h_44 hZ) hH os_87 os_97 (Nat.le_of_ble_eq_true rfl) ⟨tg_340, tg_97, ok_X5_init, (Nat.le_of_ble_eq_true rfl), (Nat.le_of_ble_eq_true rfl)⟩ tg_339 rfl (Or.inr ⟨_, tw_338⟩) (Nat.le_of_ble_eq_true rfl) dX9_init_80 ⟨(Nat.le_of_ble_eq_true rfl), (Nat.le_of_ble_eq_true rfl)⟩ (fun E20 C hH sm1 => ?_)
  have sm := Sm.tr sm sm1 (Nat.le_of_ble_eq_true rfl)
  have h_0 := Sm.at sm1 (Nat.le_of_ble_eq_true rfl) h_0
  have h_44 := Sm.at sm1 (Nat.le_of_ble_eq_true rfl) h_44
  have hZ := Zr.up hZ (k := 50) (Nat.le_of_ble_eq_true rfl)
  refine G.kP (n := 50) (q := 0) (k := 7) (t := 44) (w := 0) (sh2 := shk_98) (fs := [(3, 1), (3, 11), (0, 0), (3, 19), (3, 24), (3, 30), (3, 34), (4, 0), (4, 0), (4, 0), (0, 0)]) C hH k_X9 (by decide +kernel) rfl (by decide) tg_486 rfl hnm rfl rfl rfl h_44 h_0 rfl dX9_init_83 (fun E21 C hH sm1 => ?_)
  have sm := Sm.tr sm sm1 (Nat.le_of_ble_eq_true rfl)
  have h_0 := Sm.at sm1 (Nat.le_of_ble_eq_true rfl) h_0
  refine G.aload_n C 0 dX9_init_86 rfl rfl ?_
  refine G.kO C hH os_98 k_X0 [(0, 0), (1, 0), (2, 0), (4, 0), (4, 0), (0, 0), (4, 0), (0, 0)] tg_362 tg_363 tg_98 hZ (by decide +kernel) (by decide +kernel) (Nat.le_of_ble_eq_true rfl) (Nat.le_of_ble_eq_true rfl) dX9_init_87 (fun E22 q22 C hH sm1 h_50 => ?_)
  have hH : eH E22 = shk_99 := hH
  have sm := Sm.tr sm sm1 (Nat.le_of_ble_eq_true rfl)
  have h_0 := Sm.at sm1 (Nat.le_of_ble_eq_true rfl) h_0
  have hZ := Zr.up hZ (k := 51) (Nat.le_of_ble_eq_true rfl)
  refine G.dup C dX9_init_90 rfl ?_
  refine G.kC (rest := [.ref q22, .ref a]) C (n_X0_init_50 hH h_50 hZ) hH os_99 os_105 (Nat.le_of_ble_eq_true rfl) ⟨tg_366, tg_98, ok_X0_init, (Nat.le_of_ble_eq_true rfl), (Nat.le_of_ble_eq_true rfl)⟩ tg_365 rfl (Or.inr ⟨_, tw_364⟩) (Nat.le_of_ble_eq_true rfl) dX9_init_91 ⟨(Nat.le_of_ble_eq_true rfl), (Nat.le_of_ble_eq_true rfl)⟩ (fun E23 C hH sm1 => ?_)
  have sm := Sm.tr sm sm1 (Nat.le_of_ble_eq_true rfl)
  have h_0 := Sm.at sm1 (Nat.le_of_ble_eq_true rfl) h_0
  have h_50 := Sm.at sm1 (Nat.le_of_ble_eq_true rfl) h_50
  have hZ := Zr.up hZ (k := 54) (Nat.le_of_ble_eq_true rfl)
  refine G.kP (n := 54) (q := 0) (k := 8) (t := 50) (w := 0) (sh2 := shk_106) (fs := [(3, 1), (3, 11), (0, 0), (3, 19), (3, 24), (3, 30), (3, 34), (3, 44), (4, 0), (4, 0), (0, 0)]) C hH k_X9 (by decide +kernel) rfl (by decide) tg_487 rfl hnm rfl rfl rfl h_50 h_0 rfl dX9_init_94 (fun E24 C hH sm1 => ?_)
  have sm := Sm.tr sm sm1 (Nat.le_of_ble_eq_true rfl)
  have h_0 := Sm.at sm1 (Nat.le_of_ble_eq_true rfl) h_0
  refine G.aload_n C 0 dX9_init_97 rfl rfl ?_
  refine G.iconst (v := (3 : Int32)) C dX9_init_98 (by decide) ?_
  refine G.kQ (N := 3) C hH os_106 tg_362 (by decide) (by decide) (by decide) (Nat.le_of_ble_eq_true rfl) (Nat.le_of_ble_eq_true rfl) dX9_init_99 (fun E25 q25 C hH sm1 h_54 => ?_)
  have hH : eH E25 = shk_107 := hH
  have sm := Sm.tr sm sm1 (Nat.le_of_ble_eq_true rfl)
  have h_0 := Sm.at sm1 (Nat.le_of_ble_eq_true rfl) h_0
  have hZ := Zr.up hZ (k := 55) (Nat.le_of_ble_eq_true rfl)
  refine G.dup C dX9_init_102 rfl ?_
  refine G.iconst (v := (0 : Int32)) C dX9_init_103 (by decide) ?_
  refine G.kO C hH os_107 k_X0 [(0, 0), (1, 0), (2, 0), (4, 0), (4, 0), (0, 0), (4, 0), (0, 0)] tg_362 tg_363 tg_98 hZ (by decide +kernel) (by decide +kernel) (Nat.le_of_ble_eq_true rfl) (Nat.le_of_ble_eq_true rfl) dX9_init_104 (fun E26 q26 C hH sm1 h_55 => ?_)
  have hH : eH E26 = shk_108 := hH
  have sm := Sm.tr sm sm1 (Nat.le_of_ble_eq_true rfl)
  have h_0 := Sm.at sm1 (Nat.le_of_ble_eq_true rfl) h_0
  have h_54 := Sm.at sm1 (Nat.le_of_ble_eq_true rfl) h_54
  have hZ := Zr.up hZ (k := 56) (Nat.le_of_ble_eq_true rfl)
  refine G.dup C dX9_init_107 rfl ?_
  refine G.kC (rest := [.ref q26, .int (0 : Int32), .ref q25, .ref q25, .ref a]) C (n_X0_init_55 hH h_55 hZ) hH os_108 os_114 (Nat.le_of_ble_eq_true rfl) ⟨tg_366, tg_98, ok_X0_init, (Nat.le_of_ble_eq_true rfl), (Nat.le_of_ble_eq_true rfl)⟩ tg_365 rfl (Or.inr ⟨_, tw_364⟩) (Nat.le_of_ble_eq_true rfl) dX9_init_108 ⟨(Nat.le_of_ble_eq_true rfl), (Nat.le_of_ble_eq_true rfl)⟩ (fun E27 C hH sm1 => ?_)
  have sm := Sm.tr sm sm1 (Nat.le_of_ble_eq_true rfl)
  have h_0 := Sm.at sm1 (Nat.le_of_ble_eq_true rfl) h_0
  have h_54 := Sm.at sm1 (Nat.le_of_ble_eq_true rfl) h_54
  have h_55 := Sm.at sm1 (Nat.le_of_ble_eq_true rfl) h_55
  have hZ := Zr.up hZ (k := 59) (Nat.le_of_ble_eq_true rfl)
  refine G.kA (n := 59) (sh2 := shk_115) (q := 54) (t := 55) (N := 3) (rs := []) (fs := [(0, 0), (1, 0), (2, 0), (3, 56), (3, 57), (0, 0), (3, 58), (0, 0)]) C hH h_54 h_55 (by decide +kernel) (by decide +kernel) (by decide) (by decide) rfl dX9_init_111 (fun E28 C hH sm1 => ?_)
  have sm := Sm.tr sm sm1 (Nat.le_of_ble_eq_true rfl)
  have h_0 := Sm.at sm1 (Nat.le_of_ble_eq_true rfl) h_0
  have h_54 := Sm.at sm1 (Nat.le_of_ble_eq_true rfl) h_54
  refine G.dup C dX9_init_112 rfl ?_
  refine G.iconst (v := (1 : Int32)) C dX9_init_113 (by decide) ?_
  refine G.kO C hH os_115 k_X0 [(0, 0), (1, 0), (2, 0), (4, 0), (4, 0), (0, 0), (4, 0), (0, 0)] tg_362 tg_363 tg_98 hZ (by decide +kernel) (by decide +kernel) (Nat.le_of_ble_eq_true rfl) (Nat.le_of_ble_eq_true rfl) dX9_init_114 (fun E29 q29 C hH sm1 h_59 => ?_)
  have hH : eH E29 = shk_116 := hH
  have sm := Sm.tr sm sm1 (Nat.le_of_ble_eq_true rfl)
  have h_0 := Sm.at sm1 (Nat.le_of_ble_eq_true rfl) h_0
  have h_54 := Sm.at sm1 (Nat.le_of_ble_eq_true rfl) h_54
  have hZ := Zr.up hZ (k := 60) (Nat.le_of_ble_eq_true rfl)
  refine G.dup C dX9_init_117 rfl ?_
  refine G.kC (rest := [.ref q29, .int (1 : Int32), .ref q25, .ref q25, .ref a]) C (n_X0_init_59 hH h_59 hZ) hH os_116 os_122 (Nat.le_of_ble_eq_true rfl) ⟨tg_366, tg_98, ok_X0_init, (Nat.le_of_ble_eq_true rfl), (Nat.le_of_ble_eq_true rfl)⟩ tg_365 rfl (Or.inr ⟨_, tw_364⟩) (Nat.le_of_ble_eq_true rfl) dX9_init_118 ⟨(Nat.le_of_ble_eq_true rfl), (Nat.le_of_ble_eq_true rfl)⟩ (fun E30 C hH sm1 => ?_)
  have sm := Sm.tr sm sm1 (Nat.le_of_ble_eq_true rfl)
  have h_0 := Sm.at sm1 (Nat.le_of_ble_eq_true rfl) h_0
  have h_54 := Sm.at sm1 (Nat.le_of_ble_eq_true rfl) h_54
  have h_59 := Sm.at sm1 (Nat.le_of_ble_eq_true rfl) h_59
  have hZ := Zr.up hZ (k := 63) (Nat.le_of_ble_eq_true rfl)
  refine G.kA (n := 63) (sh2 := shk_123) (q := 54) (t := 59) (N := 3) (rs := [55]) (fs := [(0, 0), (1, 0), (2, 0), (3, 60), (3, 61), (0, 0), (3, 62), (0, 0)]) C hH h_54 h_59 (by decide +kernel) (by decide +kernel) (by decide) (by decide) rfl dX9_init_121 (fun E31 C hH sm1 => ?_)
  have sm := Sm.tr sm sm1 (Nat.le_of_ble_eq_true rfl)
  have h_0 := Sm.at sm1 (Nat.le_of_ble_eq_true rfl) h_0
  have h_54 := Sm.at sm1 (Nat.le_of_ble_eq_true rfl) h_54
  refine G.dup C dX9_init_122 rfl ?_
  refine G.iconst (v := (2 : Int32)) C dX9_init_123 (by decide) ?_
  refine G.kO C hH os_123 k_X0 [(0, 0), (1, 0), (2, 0), (4, 0), (4, 0), (0, 0), (4, 0), (0, 0)] tg_362 tg_363 tg_98 hZ (by decide +kernel) (by decide +kernel) (Nat.le_of_ble_eq_true rfl) (Nat.le_of_ble_eq_true rfl) dX9_init_124 (fun E32 q32 C hH sm1 h_63 => ?_)
  have hH : eH E32 = shk_124 := hH
  have sm := Sm.tr sm sm1 (Nat.le_of_ble_eq_true rfl)
  have h_0 := Sm.at sm1 (Nat.le_of_ble_eq_true rfl) h_0
  have h_54 := Sm.at sm1 (Nat.le_of_ble_eq_true rfl) h_54
  have hZ := Zr.up hZ (k := 64) (Nat.le_of_ble_eq_true rfl)
  refine G.dup C dX9_init_127 rfl ?_
  refine G.kC (rest := [.ref q32, .int (2 : Int32), .ref q25, .ref q25, .ref a]) C (n_X0_init_63 hH h_63 hZ) hH os_124 os_130 (Nat.le_of_ble_eq_true rfl) ⟨tg_366, tg_98, ok_X0_init, (Nat.le_of_ble_eq_true rfl), (Nat.le_of_ble_eq_true rfl)⟩ tg_365 rfl (Or.inr ⟨_, tw_364⟩) (Nat.le_of_ble_eq_true rfl) dX9_init_128 ⟨(Nat.le_of_ble_eq_true rfl), (Nat.le_of_ble_eq_true rfl)⟩ (fun E33 C hH sm1 => ?_)
  have sm := Sm.tr sm sm1 (Nat.le_of_ble_eq_true rfl)
  have h_0 := Sm.at sm1 (Nat.le_of_ble_eq_true rfl) h_0
  have h_54 := Sm.at sm1 (Nat.le_of_ble_eq_true rfl) h_54
  have h_63 := Sm.at sm1 (Nat.le_of_ble_eq_true rfl) h_63
  have hZ := Zr.up hZ (k := 67) (Nat.le_of_ble_eq_true rfl)
  refine G.kA (n := 67) (sh2 := shk_131) (q := 54) (t := 63) (N := 3) (rs := [55, 59]) (fs := [(0, 0), (1, 0), (2, 0), (3, 64), (3, 65), (0, 0), (3, 66), (0, 0)]) C hH h_54 h_63 (by decide +kernel) (by decide +kernel) (by decide) (by decide) rfl dX9_init_131 (fun E34 C hH sm1 => ?_)
  have sm := Sm.tr sm sm1 (Nat.le_of_ble_eq_true rfl)
  have h_0 := Sm.at sm1 (Nat.le_of_ble_eq_true rfl) h_0
  have h_54 := Sm.at sm1 (Nat.le_of_ble_eq_true rfl) h_54
  refine G.kP (n := 67) (q := 0) (k := 9) (t := 54) (w := 0) (sh2 := shk_132) (fs := [(3, 1), (3, 11), (0, 0), (3, 19), (3, 24), (3, 30), (3, 34), (3, 44), (3, 50), (4, 0), (0, 0)]) C hH k_X9 (by decide +kernel) rfl (by decide) tg_488 rfl hnm rfl rfl rfl h_54 h_0 rfl dX9_init_132 (fun E35 C hH sm1 => ?_)
  have sm := Sm.tr sm sm1 (Nat.le_of_ble_eq_true rfl)
  have h_0 := Sm.at sm1 (Nat.le_of_ble_eq_true rfl) h_0
  refine G.aload_n C 0 dX9_init_135 rfl rfl ?_
  refine G.iconst (v := (0 : Int32)) C dX9_init_136 (by decide) ?_
  refine G.putIa (q := 0) (k := 10) (fs := [(3, 1), (3, 11), (0, 0), (3, 19), (3, 24), (3, 30), (3, 34), (3, 44), (3, 50), (3, 54), (0, 0)]) (M' := (mk_10 M)) C hH h_0 k_X9 (by decide +kernel) rfl (by decide) tg_489 rfl rfl dX9_init_137 rfl ?_
  have hZ : Zr 67 (mk_10 M) := Zr.w hZ (Nat.le_of_ble_eq_true rfl)
  refine G.aload_n C 0 dX9_init_140 rfl rfl ?_
  refine G.getRa (q := 0) (k := 1) (w := 11) (fs := [(3, 1), (3, 11), (0, 0), (3, 19), (3, 24), (3, 30), (3, 34), (3, 44), (3, 50), (3, 54), (0, 0)]) C hH h_0 k_X9 (by decide +kernel) rfl (by decide) tg_480 dX9_init_141 ?_
  have hE : Has shC (eH E35) := by rw [hH, show shk_132 = shC from by decide +kernel]; exact fun _ _ h => h
  refine G.callV (rest := []) C (s_X7_wipe_11 hE h1) ⟨tg_404, tg_92, ok_X7_wipe, (Nat.le_of_ble_eq_true rfl), (Nat.le_of_ble_eq_true rfl)⟩ tg_401 tg_402 tg_403 (sc_11 hE) rfl rfl (Nat.le_of_ble_eq_true rfl) dX9_init_144 ⟨(Nat.le_of_ble_eq_true rfl), (Nat.le_of_ble_eq_true rfl)⟩ ?_
  refine G.aload_n C 0 dX9_init_147 rfl rfl ?_
  refine G.getRa (q := 0) (k := 8) (w := 50) (fs := [(3, 1), (3, 11), (0, 0), (3, 19), (3, 24), (3, 30), (3, 34), (3, 44), (3, 50), (3, 54), (0, 0)]) C hH h_0 k_X9 (by decide +kernel) rfl (by decide) tg_487 dX9_init_148 ?_
  refine G.callV (rest := []) C (s_X0_wipe_50 hE h2) ⟨tg_415, tg_98, ok_X0_wipe, (Nat.le_of_ble_eq_true rfl), (Nat.le_of_ble_eq_true rfl)⟩ tg_412 tg_413 tg_414 (sc_50 hE) rfl rfl (Nat.le_of_ble_eq_true rfl) dX9_init_151 ⟨(Nat.le_of_ble_eq_true rfl), (Nat.le_of_ble_eq_true rfl)⟩ ?_
  refine G.aload_n C 0 dX9_init_154 rfl rfl ?_
  refine G.getRa (q := 0) (k := 4) (w := 24) (fs := [(3, 1), (3, 11), (0, 0), (3, 19), (3, 24), (3, 30), (3, 34), (3, 44), (3, 50), (3, 54), (0, 0)]) C hH h_0 k_X9 (by decide +kernel) rfl (by decide) tg_483 dX9_init_155 ?_
  refine G.aload_n C 0 dX9_init_158 rfl rfl ?_
  refine G.getRa (q := 0) (k := 1) (w := 11) (fs := [(3, 1), (3, 11), (0, 0), (3, 19), (3, 24), (3, 30), (3, 34), (3, 44), (3, 50), (3, 54), (0, 0)]) C hH h_0 k_X9 (by decide +kernel) rfl (by decide) tg_480 dX9_init_159 ?_
  refine G.callV (rest := []) C (s_X1_lay_24_11 hE h3) ⟨tg_419, tg_94, ok_X1_lay, (Nat.le_of_ble_eq_true rfl), (Nat.le_of_ble_eq_true rfl)⟩ tg_416 tg_417 tg_418 (sc_24 hE) rfl rfl (Nat.le_of_ble_eq_true rfl) dX9_init_162 ⟨(Nat.le_of_ble_eq_true rfl), (Nat.le_of_ble_eq_true rfl)⟩ ?_
  refine G.aload_n C 0 dX9_init_165 rfl rfl ?_
  refine G.getRa (q := 0) (k := 6) (w := 34) (fs := [(3, 1), (3, 11), (0, 0), (3, 19), (3, 24), (3, 30), (3, 34), (3, 44), (3, 50), (3, 54), (0, 0)]) C hH h_0 k_X9 (by decide +kernel) rfl (by decide) tg_485 dX9_init_166 ?_
  refine G.aload_n C 0 dX9_init_169 rfl rfl ?_
  refine G.getRa (q := 0) (k := 1) (w := 11) (fs := [(3, 1), (3, 11), (0, 0), (3, 19), (3, 24), (3, 30), (3, 34), (3, 44), (3, 50), (3, 54), (0, 0)]) C hH h_0 k_X9 (by decide +kernel) rfl (by decide) tg_480 dX9_init_170 ?_
  refine G.callV (rest := []) C (s_X6_lay_34_11 hE h4) ⟨tg_450, tg_96, ok_X6_lay, (Nat.le_of_ble_eq_true rfl), (Nat.le_of_ble_eq_true rfl)⟩ tg_447 tg_448 tg_449 (sc_34 hE) rfl rfl (Nat.le_of_ble_eq_true rfl) dX9_init_173 ⟨(Nat.le_of_ble_eq_true rfl), (Nat.le_of_ble_eq_true rfl)⟩ ?_
  exact G.kR C sm hH os_132 hr dX9_init_176
