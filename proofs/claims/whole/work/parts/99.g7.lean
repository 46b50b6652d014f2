theorem tg_116 : Cond.classLink RL 8 RX9 ∈ tblG := inG_i 116 (by decide +kernel) (by decide +kernel)
theorem tg_118 : Cond.methodLink RL 122 yX9_init ∈ tblG := inG_i 118 (by decide +kernel) (by decide +kernel)
theorem tg_120 : Cond.code yX9_init cX9_init 1 none ∈ tblG := inG_i 120 (by decide +kernel) (by decide +kernel)
theorem ok_X9_init : okY yX9_init 0 = true := by decide +kernel
theorem tg_119 : Cond.instanceMethod yX9_init ∈ tblG := inG_i 119 (by decide +kernel) (by decide +kernel)
theorem tg_1419 : Cond.classLink RL 123 RX10 ∈ tblG := inG_i 1419 (by decide +kernel) (by decide +kernel)
theorem tg_1421 : Cond.methodLink RL 125 yX10_init ∈ tblG := inG_i 1421 (by decide +kernel) (by decide +kernel)
theorem tg_1423 : Cond.code yX10_init cX10_init 2 none ∈ tblG := inG_i 1423 (by decide +kernel) (by decide +kernel)
theorem ok_X10_init : okY yX10_init 0 = true := by decide +kernel
theorem tg_1422 : Cond.instanceMethod yX10_init ∈ tblG := inG_i 1422 (by decide +kernel) (by decide +kernel)
theorem shk_132_C : shk_132 = shC := by decide +kernel
theorem hasA_fin : Has shA (shk_191 ++ [.inl (1, 1, [])]) := by
  rw [show shk_191 ++ [.inl (1, 1, [])] = shA from by decide +kernel]
  exact fun _ _ h => h
def mm0 : Mm := (fun _ _ => 0, fun _ _ => 0)
theorem mm0_z : Zr 0 mm0 := fun _ _ _ => ⟨rfl, rfl⟩
section
variable {p : Program} {l : Launch} {e : Env} {s : State} {m : MethodId} {below : List Frame} {meth : Method} {c : Code} {E : Ev} {b L : Nat} {xs : Nat → Int32}
set_option maxHeartbeats 8000000 in
set_option maxRecDepth 100000 in
theorem g_start (hL : L ≤ 384) (hst : l.stackTraces = false) (C : Cx RL cL_law 8 p room_1 s m #[Value.ref b] meth c E) (hH : eH E = []) (hes : eS E = s.heap.size) (hr : meth.sig.returnType = ret) (hX : va_X b L xs s s.heap) (hbl : b < s.heap.size) : G p l e room_1 s m #[Value.ref b] below meth c E 8 0 0 (lw_Z below #[Value.ref b] s) 0 [(0, .ref b)] [] mm0 := by
  obtain ⟨m1, m2, m3, m4, h1, h2, h3, h4, z4, hR⟩ := start_c mm0_z
  have hZ : Zr 0 mm0 := mm0_z
  have sm : Sm E E 0 := Sm.rf
  refine G.kO (n := 0) C hH (by decide +kernel) k_X9 [(4, 0), (4, 0), (0, 0), (4, 0), (4, 0), (4, 0), (4, 0), (4, 0), (4, 0), (4, 0), (0, 0)] tg_116 tg_117 tg_90 hZ (by decide +kernel) (by decide +kernel) (Nat.le_of_ble_eq_true rfl) (Nat.le_of_ble_eq_true rfl) dL_law_0 (fun E1 q1 C hH sm1 h_0 => ?_)
  have hH : eH E1 = shk_0 := hH
  have sm := Sm.tr sm sm1 (Nat.zero_le _)
  have hZ : Zr 1 mm0 := Zr.up hZ (Nat.zero_le _)
  refine G.dup C dL_law_3 rfl ?_
  refine G.kC (rest := [.ref q1]) C (n_X9_init_0 hH h_0 hZ h1 h2 h3 h4) hH os_0 os_132 (Nat.le_of_ble_eq_true rfl) ⟨tg_120, tg_90, ok_X9_init, (Nat.le_of_ble_eq_true rfl), (Nat.le_of_ble_eq_true rfl)⟩ tg_119 rfl (Or.inl tg_118) (Nat.le_of_ble_eq_true rfl) dL_law_4 ⟨(Nat.le_of_ble_eq_true rfl), (Nat.le_of_ble_eq_true rfl)⟩ (fun E2 C hH sm1 => ?_)
  have sm := Sm.tr sm sm1 (Nat.zero_le _)
  have h_0 := Sm.at sm1 (Nat.le_of_ble_eq_true rfl) h_0
  have hH : eH E2 = shC := hH.trans shk_132_C
  refine G.astore_n (L' := [(1, .ref q1), (0, .ref b)]) C dL_law_7 rfl rfl (by decide) rfl ?_
  refine G.kO (n := 67) C hH (by decide +kernel) k_X10 [(0, 0), (0, 0), (0, 0), (0, 0), (0, 0), (0, 0), (0, 0), (0, 0), (4, 0), (4, 0), (4, 0), (4, 0), (4, 0), (4, 0), (4, 0), (4, 0), (4, 0), (4, 0), (4, 0), (0, 0), (4, 0), (4, 0), (1, 0), (0, 0), (0, 0), (0, 0), (0, 0), (0, 0), (4, 0), (4, 0), (4, 0), (0, 0), (4, 0), (4, 0), (4, 0), (4, 0), (4, 0), (0, 0), (4, 0), (4, 0), (4, 0), (0, 0), (4, 0), (0, 0), (0, 0), (0, 0), (4, 0), (4, 0), (4, 0), (4, 0)] tg_1419 tg_1420 tg_103 z4 (by decide +kernel) (by decide +kernel) (Nat.le_of_ble_eq_true rfl) (Nat.le_of_ble_eq_true rfl) dL_law_8 (fun E3 q3 C hH sm1 h_67 => ?_)
  have hH : eH E3 = shk_133 := hH
  have sm := Sm.tr sm sm1 (Nat.zero_le _)
  have h_0 := Sm.at sm1 (Nat.le_of_ble_eq_true rfl) h_0
  have hZ : Zr 68 m4 := Zr.up z4 (Nat.le_of_ble_eq_true rfl)
  refine G.dup C dL_law_11 rfl ?_
  refine G.kC (rest := [.ref q3]) C (n_X10_init_67 hH h_67 hZ) hH os_133 os_191 (Nat.le_of_ble_eq_true rfl) ⟨tg_1423, tg_103, ok_X10_init, (Nat.le_of_ble_eq_true rfl), (Nat.le_of_ble_eq_true rfl)⟩ tg_1422 rfl (Or.inl tg_1421) (Nat.le_of_ble_eq_true rfl) dL_law_12 ⟨(Nat.le_of_ble_eq_true rfl), (Nat.le_of_ble_eq_true rfl)⟩ (fun E4 C hH sm1 => ?_)
  have sm := Sm.tr sm sm1 (Nat.zero_le _)
  have h_0 := Sm.at sm1 (Nat.le_of_ble_eq_true rfl) h_0
  have h_67 := Sm.at sm1 (Nat.le_of_ble_eq_true rfl) h_67
  have hZ : Zr 120 (mk_22 m4) := zk_22 (Nat.le_refl 120) (Zr.up hZ (Nat.le_of_ble_eq_true rfl))
  refine G.astore_n (L' := [(2, .ref q3), (1, .ref q1), (0, .ref b)]) C dL_law_15 rfl rfl (by decide) rfl ?_
  refine G.iconst (v := (1 : Int32)) C dL_law_16 (by decide) ?_
  refine G.kJ (N := 1) C hH os_191 tg_193 hZ (by decide) (by decide) (by decide) (Nat.le_of_ble_eq_true rfl) (Nat.le_of_ble_eq_true rfl) dL_law_17 (fun E5 q5 C hH sm1 h_120 => ?_)
  have sm := Sm.tr sm sm1 (Nat.zero_le _)
  have h_0 := Sm.at sm1 (Nat.le_of_ble_eq_true rfl) h_0
  have h_67 := Sm.at sm1 (Nat.le_of_ble_eq_true rfl) h_67
  refine G.astore_n (L' := [(3, .ref q5), (2, .ref q3), (1, .ref q1), (0, .ref b)]) C dL_law_19 rfl rfl (by decide) rfl ?_
  refine G.iconst (v := (0 : Int32)) C dL_law_20 (by decide) ?_
  refine G.istore (L' := [(4, .int 0), (3, .ref q5), (2, .ref q3), (1, .ref q1), (0, .ref b)]) C dL_law_21 rfl (by decide) rfl ?_
  refine G.sub [4, 3, 2, 1, 0] (L' := [(0, .ref b), (1, .ref q1), (2, .ref q3), (3, .ref q5), (4, .int 0)]) rfl ?_
  subst h_0; subst h_67; subst h_120
  have hE : Has shA (eH E5) := by rw [hH]; exact hasA_fin
  have he5 : eS E5 = s.heap.size := sm.2.2.1.trans hes
  exact g_law 65 hE hst C hr he5 hX hbl (fun h => by have h' : eS E5 ≤ b := h; omega) (0 : Int32) (mk_22 m4) _ _ (Nat.le_of_ble_eq_true rfl) (Nat.le_of_ble_eq_true rfl) (law_ok hL 65 0 (mk_22 m4) (Nat.zero_le _) (by omega) hR)
end
/-- from the entry, for every script of at most 384 ints, the law comes to its end with true -/
theorem whole_start {p : Program} {e : Env} {s : State} {m : MethodId} {below : List Frame} {meth : Method} {c : Code} (l : Launch) (hst : l.stackTraces = false) {b L : Nat} {xs : Nat → Int32} (hL : L ≤ 384) (C0 : lw_At p s m meth c b L xs) : W p l e room_1 s m #[Value.ref b] below meth c s.heap [] 0 0 (lw_Z below #[Value.ref b] s) (entryFrame m ([Value.ref b] : List Value).toArray 8) := by
  obtain ⟨hx, hb, hr, hml, hown, hts, hX, hbl, hlk, hg⟩ := C0
  have htG : ∀ w ∈ tblG, w.before #[Value.ref b] s = true := fun w hw => hts w (List.mem_filter.mp hw).1
  obtain ⟨D, hD⟩ := kn_all htG
  obtain ⟨cA, hA⟩ := arr_all hts
  obtain ⟨X, hS⟩ := stt_start hts hg
  have C : Cx RL cL_law 8 p room_1 s m #[Value.ref b] meth c (D, cA, s.heap.size, [], (fun _ => 0), X) := ⟨hx, hb, hml, hown, htG, hlk, Nat.le_refl _, ⟨hD, hA⟩, ⟨fun i j hi => absurd hi (Nat.not_lt_zero i), fun i hi => absurd hi (Nat.not_lt_zero i)⟩, hS D cA _, nw_start hts⟩
  rw [lg_entry_eq]
  exact g_start hL hst C rfl rfl hr hX hbl s.heap [] _ (fun k q hq => by cases hq) va_S.rf (lv_entry [.ref b] (Nat.le_of_ble_eq_true rfl))
