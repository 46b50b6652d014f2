def strC (j k : Nat) : Int32 := (strB.getD j []).getD k 0
theorem strC_ok : ∀ j, j < 8 → ∀ k, k < strN.getD j 0 → ((strC j k &&& 255).toUInt32 % 65536).toInt32 = strC j k ∧ narrow .char (.int (strC j k)) = .int (strC j k) := by decide +kernel
theorem strN_ok : ∀ j, j < 8 → strN.getD j 0 < 2 ^ 31 ∧ shrI (Int32.ofNat (strN.getD j 0)) 0 = Int32.ofNat (strN.getD j 0) := by decide +kernel
section GS
variable {p : Program} {l : Launch} {e : Env} {R : Room} {s : State} {m : MethodId} {args : Array Value} {below : List Frame} {meth : Method} {c : Code} {E : Ev} {nL cells slots : Nat} {Q : State → Prop} {own : String} {cc : ByteArray} {pc : Nat} {L : List (Nat × Value)} {st rest : List Value} {M M' : Mm} {index d mL : Nat} {y : MethodName} {bytes : ByteArray} {rt : Option FieldType} {As : List Value} {o : Option Value}
theorem G.ldcS (C : Cx own cc nL p R s m args meth c E) (j : Nat) {tx : String} (hj : strT[j]? = some (own, index, tx)) (hd : decode cc pc = .ok (.ldc index, 2)) (kk : G p l e R s m args below meth c E nL cells slots Q (pc + 2) L (.ref (eX E (1 + j)) :: st) M) : G p l e R s m args below meth c E nL cells slots Q pc L st M := by
  obtain ⟨hx, hb, -, hown, hts, -, -, hK, hA, hT, -⟩ := C
  exact fun H locs ls hP hS hl0 => va_ldcS hx hb hown (hT.2.2.2.1 j _ hj) hd (kk H locs ls hP hS hl0)
theorem G.callVs (C : Cx own cc nL p R s m args meth c E) {i : Nat} (hi : i < 8) (hM : MetA l y bytes mL rt d E (.ref (eX E (1 + i)) :: As) M o M') (hc : Cal R y bytes mL rt d As.length) (hl : Cond.methodLink own index y ∈ tblG) (hin : Cond.instanceMethod y ∈ tblG) (hse : Cond.selects "java/lang/String" y y ∈ tblG) (hk : st = As.reverse ++ .ref (eX E (1 + i)) :: rest) (hcat : (rest.map fun v => v.category).sum ≤ 8) (hd : decode cc pc = .ok (.invokevirtual index, 3)) (h0 : cells ≤ R.cells ∧ slots ≤ R.slots)
    (kk : G p l e R s m args below meth c E nL cells slots Q (pc + 3) L (o.toList ++ rest) M') : G p l e R s m args below meth c E nL cells slots Q pc L st M := by
  refine G.run (a := (Value.ref (eX E (1 + i)) :: As).toArray) (fun H locs ls hP hS hl0 => ?_) kk
  obtain ⟨h1, h2, h3, h4, h5⟩ := hc
  obtain ⟨hx, hb, hml, hown, hts, -, -, -, -, hT, -⟩ := id C
  exact va_runV (As := As) ⟨hx, hb, hml, hown, hts⟩ hM ⟨callB_of As.length hts (wsY_good h1) rfl rfl rfl (hts _ h2) (hts _ hl) (okY_s h3) ⟨h4, h5⟩, hts _ hin, hts _ hse⟩ ⟨blindP, vk_recv (i := i) hT.2.2.1 hi hS, fun U hU hW => ⟨rfl, repU C hP hS hU hW⟩⟩ rfl rfl hl0.1 hk (lv_room hcat) hd h0
theorem G.sval (C : Cx own cc nL p R s m args meth c E) {i : Nat} (hi : i < 8) (hl : Cond.fieldLink own index "java/lang/String" "value" "[B" ∈ tblG) (hd : decode cc pc = .ok (.getfield index, 3)) (kk : G p l e R s m args below meth c E nL cells slots Q (pc + 3) L (.ref (eX E (15 + i)) :: st) M) : G p l e R s m args below meth c E nL cells slots Q pc L (.ref (eX E (1 + i)) :: st) M := by
  obtain ⟨hx, hb, -, hown, hts, -, -, hK, hA, hT, -⟩ := C
  exact fun H locs ls hP hS hl0 => vk_getf hx hb (hT.2.2.1.1 i hi).2.2.1 hS hown (hts _ hl) (fun x h => h) hd (kk H locs ls hP hS hl0)
theorem G.scod (C : Cx own cc nL p R s m args meth c E) {i : Nat} (hi : i < 8) (hl : Cond.fieldLink own index "java/lang/String" "coder" "B" ∈ tblG) (hd : decode cc pc = .ok (.getfield index, 3)) (kk : G p l e R s m args below meth c E nL cells slots Q (pc + 3) L (.int 0 :: st) M) : G p l e R s m args below meth c E nL cells slots Q pc L (.ref (eX E (1 + i)) :: st) M := by
  obtain ⟨hx, hb, -, hown, hts, -, -, hK, hA, hT, -⟩ := C
  exact fun H locs ls hP hS hl0 => vk_getf hx hb (hT.2.2.1.1 i hi).2.1 hS hown (hts _ hl) (fun x h => h) hd (kk H locs ls hP hS hl0)
theorem G.salen (C : Cx own cc nL p R s m args meth c E) {i : Nat} (hi : i < 8) (hd : decode cc pc = .ok (.arraylength, 1)) (kk : G p l e R s m args below meth c E nL cells slots Q (pc + 1) L (.int (Int32.ofNat (strN.getD i 0)) :: st) M) : G p l e R s m args below meth c E nL cells slots Q pc L (.ref (eX E (15 + i)) :: st) M := by
  obtain ⟨hx, hb, -, hown, hts, -, -, hK, hA, hT, -⟩ := C
  intro H locs ls hP hS hl0
  obtain ⟨cell, h1, h2, h3, h4, h5, h6, h7⟩ := (hT.2.2.1.1 i hi).2.2.2
  exact W.alen (n := Int32.ofNat (strN.getD i 0)) hx hb (by rw [hS.2.1 _ (Array.getElem?_eq_some_iff.mp h1).1 h7]; exact h1) h2 h5 rfl rfl hd (kk H locs ls hP hS hl0)
theorem G.sald (C : Cx own cc nL p R s m args meth c E) {i : Nat} (hi : i < 8) {k : Int32} (hk : inb k (strN.getD i 0) = true) (hd : decode cc pc = .ok (.baload, 1)) (kk : G p l e R s m args below meth c E nL cells slots Q (pc + 1) L (.int (strC i (ix k)) :: st) M) : G p l e R s m args below meth c E nL cells slots Q pc L (.int k :: .ref (eX E (15 + i)) :: st) M := by
  obtain ⟨hx, hb, -, hown, hts, -, -, hK, hA, hT, -⟩ := C
  exact fun H locs ls hP hS hl0 => va_tb hx hb (hT.2.2.1.1 i hi).2.2.2 hS (inb_in hk) rfl hd (kk H locs ls hP hS hl0)
theorem G.compact (C : Cx own cc nL p R s m args meth c E) (hl : Cond.fieldLink own index "java/lang/String" "COMPACT_STRINGS" "Z" ∈ tblG) (hd : decode cc pc = .ok (.getstatic index, 3)) (kk : G p l e R s m args below meth c E nL cells slots Q (pc + 3) L (.int 1 :: st) M) : G p l e R s m args below meth c E nL cells slots Q pc L st M := by
  obtain ⟨hx, hb, -, hown, hts, -, -, hK, hA, hT, -⟩ := C
  exact fun H locs ls hP hS hl0 => va_gets hx hb hT.2.2.2.2.2.2.1 hS hown (hts _ hl) (fun x h => h) hd (kk H locs ls hP hS hl0)
theorem G.fmtr (C : Cx own cc nL p R s m args meth c E) (hl : Cond.fieldLink own index "jdk/internal/util/Preconditions" "SIOOBE_FORMATTER" "Ljava/util/function/BiFunction;" ∈ tblG) (hd : decode cc pc = .ok (.getstatic index, 3)) (kk : ∀ v : Value, v.category = 1 → G p l e R s m args below meth c E nL cells slots Q (pc + 3) L (v :: st) M) : G p l e R s m args below meth c E nL cells slots Q pc L st M := by
  obtain ⟨hx, hb, -, hown, hts, -, -, hK, hA, hT, -⟩ := C
  intro H locs ls hP hS hl0
  rcases hT.2.2.2.2.2.2.2.1 with h | ⟨t, h⟩
  · exact va_gets hx hb h hS hown (hts _ hl) (fun x h => h) hd (kk .null rfl H locs ls hP hS hl0)
  · exact va_gets hx hb h hS hown (hts _ hl) (fun x h => h) hd (kk (.ref t) rfl H locs ls hP hS hl0)
end GS
theorem s_coder {l : Launch} {E : Ev} {M : Mm} {i : Nat} (hi : i < 8) : MetA l yJ0_coder_7d493 cJ0_coder_7d493 1 (some .byte) 1 E [.ref (eX E (1 + i))] M (some (.int 0)) M := by
  refine MetA.of (by decide +kernel) (Nat.le_of_ble_eq_true rfl) ?_
  intro p e s m below meth c C hr hnm
  refine G.compact C tg_COMPACT dJ0_coder_7d493_0 ?_
  refine G.if_eq (tgt := 13) C dJ0_coder_7d493_3 (by decide) (fun hc => absurd hc (by decide)) (fun _ => ?_)
  refine G.aload_n C 0 dJ0_coder_7d493_6 rfl rfl ?_
  refine G.scod C hi tg_coder dJ0_coder_7d493_7 ?_
  refine G.goto (tgt := 14) C dJ0_coder_7d493_10 (by decide) ?_
  exact G.zret C hr rfl dJ0_coder_7d493_14
theorem s_isLatin1 {l : Launch} {E : Ev} {M : Mm} {i : Nat} (hi : i < 8) : MetA l yJ0_isLatin1_aae02 cJ0_isLatin1_aae02 1 (some .boolean) 1 E [.ref (eX E (1 + i))] M (some (.int 1)) M := by
  refine MetA.of (by decide +kernel) (Nat.le_of_ble_eq_true rfl) ?_
  intro p e s m below meth c C hr hnm
  refine G.compact C tg_COMPACT dJ0_isLatin1_aae02_0 ?_
  refine G.if_eq (tgt := 17) C dJ0_isLatin1_aae02_3 (by decide) (fun hc => absurd hc (by decide)) (fun _ => ?_)
  refine G.aload_n C 0 dJ0_isLatin1_aae02_6 rfl rfl ?_
  refine G.scod C hi tg_coder dJ0_isLatin1_aae02_7 ?_
  refine G.if_ne (tgt := 17) C dJ0_isLatin1_aae02_10 (by decide) (fun hc => absurd rfl hc) (fun _ => ?_)
  refine G.iconst (v := 1) C dJ0_isLatin1_aae02_13 (by decide) ?_
  refine G.goto (tgt := 18) C dJ0_isLatin1_aae02_14 (by decide) ?_
  exact G.zret C hr rfl dJ0_isLatin1_aae02_18
theorem s_slength {l : Launch} {E : Ev} {M : Mm} {i : Nat} (hi : i < 8) : MetA l yJ0_length_8abf5 cJ0_length_8abf5 1 (some .int) 2 E [.ref (eX E (1 + i))] M (some (.int (Int32.ofNat (strN.getD i 0)))) M := by
  refine MetA.of (by decide +kernel) (Nat.le_of_ble_eq_true rfl) ?_
  intro p e s m below meth c C hr hnm
  refine G.aload_n C 0 dJ0_length_8abf5_0 rfl rfl ?_
  refine G.sval C hi tg_value dJ0_length_8abf5_1 ?_
  refine G.salen C hi dJ0_length_8abf5_4 ?_
  refine G.aload_n C 0 dJ0_length_8abf5_5 rfl rfl ?_
  refine G.callVs (As := []) (rest := [.int (Int32.ofNat (strN.getD i 0))]) C hi (s_coder hi) ⟨tg_c_coder, tg_i_String, ok_coder, Nat.le_of_ble_eq_true rfl, Nat.le_of_ble_eq_true rfl⟩ tg_l_coder tg_in_coder tg_se_coder rfl (Nat.le_of_ble_eq_true rfl) dJ0_length_8abf5_6 ⟨Nat.le_refl 0, Nat.le_refl 0⟩ ?_
  refine G.isr C dJ0_length_8abf5_9 ?_
  rw [(strN_ok i hi).2]
  exact G.iret C hr dJ0_length_8abf5_10
theorem s_pci {l : Launch} {E : Ev} {M : Mm} {a b : Int32} {v : Value} (h1 : ¬ a < 0) (h2 : a < b) (hv : v.category = 1) : MetA l yJ3_checkIndex_8e157 cJ3_checkIndex_8e157 3 (some .int) 1 E [.int a, .int b, v] M (some (.int a)) M := by
  have hln : (lg_sl [.int a, .int b, v]).length ≤ 3 := by cases v <;> first | exact Nat.le_of_ble_eq_true rfl | (simp [Value.category] at hv; done)
  have hla : lv_args 0 [.int a, .int b, v] = [(0, .int a), (1, .int b), (2, v)] := rfl
  refine MetA.of (by decide +kernel) hln ?_
  intro p e s m below meth c C hr hnm
  rw [hla]
  refine G.iload_n C 0 dJ3_checkIndex_8e157_0 rfl rfl ?_
  refine G.if_lt (tgt := 9) C dJ3_checkIndex_8e157_1 (by decide) (fun hc => absurd hc h1) (fun _ => ?_)
  refine G.iload_n C 0 dJ3_checkIndex_8e157_4 rfl rfl ?_
  refine G.iload_n C 1 dJ3_checkIndex_8e157_5 rfl rfl ?_
  refine G.icmp_lt (tgt := 16) C dJ3_checkIndex_8e157_6 (by decide) (fun _ => ?_) (fun hc => absurd h2 hc)
  refine G.iload_n C 0 dJ3_checkIndex_8e157_16 rfl rfl ?_
  exact G.iret C hr dJ3_checkIndex_8e157_17
theorem s_sci {l : Launch} {E : Ev} {M : Mm} {a b : Int32} (h1 : ¬ a < 0) (h2 : a < b) : MetA l yJ0_checkIndex_df160 cJ0_checkIndex_df160 2 none 2 E [.int a, .int b] M none M := by
  refine MetA.of (by decide +kernel) (Nat.le_of_ble_eq_true rfl) ?_
  intro p e s m below meth c C hr hnm
  refine G.iload_n C 0 dJ0_checkIndex_df160_0 rfl rfl ?_
  refine G.iload_n C 1 dJ0_checkIndex_df160_1 rfl rfl ?_
  refine G.fmtr C tg_fmt dJ0_checkIndex_df160_2 (fun v hv => ?_)
  refine G.callS (rest := []) C (s_pci h1 h2 hv) ⟨tg_c_pci, tg_i_Pre, ok_pci, Nat.le_of_ble_eq_true rfl, Nat.le_of_ble_eq_true rfl⟩ tg_l_pci tg_st_pci rfl (Nat.le_of_ble_eq_true rfl) dJ0_checkIndex_df160_5 ⟨Nat.le_refl 0, Nat.le_refl 0⟩ ?_
  refine G.pop C dJ0_checkIndex_df160_8 rfl ?_
  exact G.vret C hr dJ0_checkIndex_df160_9
theorem inb_lt {a : Int32} {n : Nat} (h : inb a n = true) (hn : n < 2 ^ 31) : ¬ a < 0 ∧ a < Int32.ofNat n := by
  obtain ⟨j, hj, rfl⟩ := vp_in_of (inb_in h) hn
  exact ⟨nI_pos (by omega), nI_lt hj hn⟩
theorem s_l1char {l : Launch} {E : Ev} {M : Mm} {i : Nat} (hi : i < 8) {k : Int32} (hk : inb k (strN.getD i 0) = true) : MetA l yJ1_charAt_3b067 cJ1_charAt_3b067 2 (some .char) 3 E [.ref (eX E (15 + i)), .int k] M (some (.int (strC i (ix k)))) M := by
  have hb := inb_lt hk (strN_ok i hi).1
  have hlt : ix k < strN.getD i 0 := Nat.not_le.mp fun q => inb_in hk (Or.inr q)
  obtain ⟨e1, e2⟩ := strC_ok i hi (ix k) hlt
  refine MetA.of (by decide +kernel) (Nat.le_of_ble_eq_true rfl) ?_
  intro p e s m below meth c C hr hnm
  refine G.iload_n C 1 dJ1_charAt_3b067_0 rfl rfl ?_
  refine G.aload_n C 0 dJ1_charAt_3b067_1 rfl rfl ?_
  refine G.salen C hi dJ1_charAt_3b067_2 ?_
  refine G.callS (rest := []) C (s_sci hb.1 hb.2) ⟨tg_c_sci, tg_i_String, ok_sci, Nat.le_of_ble_eq_true rfl, Nat.le_of_ble_eq_true rfl⟩ tg_l_sci tg_st_sci rfl (Nat.le_of_ble_eq_true rfl) dJ1_charAt_3b067_3 ⟨Nat.le_refl 0, Nat.le_refl 0⟩ ?_
  refine G.aload_n C 0 dJ1_charAt_3b067_6 rfl rfl ?_
  refine G.iload_n C 1 dJ1_charAt_3b067_7 rfl rfl ?_
  refine G.sald C hi hk dJ1_charAt_3b067_8 ?_
  refine G.sipush (v := 255) C dJ1_charAt_3b067_9 (by decide) ?_
  refine G.iand C dJ1_charAt_3b067_12 ?_
  refine G.i2c (v := strC i (ix k)) C dJ1_charAt_3b067_13 e1 ?_
  exact G.zret C hr e2 dJ1_charAt_3b067_14
theorem s_scharAt {l : Launch} {E : Ev} {M : Mm} {i : Nat} (hi : i < 8) {k : Int32} (hk : inb k (strN.getD i 0) = true) : MetA l yJ0_charAt_5068e cJ0_charAt_5068e 2 (some .char) 4 E [.ref (eX E (1 + i)), .int k] M (some (.int (strC i (ix k)))) M := by
  have hlt : ix k < strN.getD i 0 := Nat.not_le.mp fun q => inb_in hk (Or.inr q)
  refine MetA.of (by decide +kernel) (Nat.le_of_ble_eq_true rfl) ?_
  intro p e s m below meth c C hr hnm
  refine G.aload_n C 0 dJ0_charAt_5068e_0 rfl rfl ?_
  refine G.callVs (As := []) (rest := []) C hi (s_isLatin1 hi) ⟨tg_c_isl, tg_i_String, ok_isl, Nat.le_of_ble_eq_true rfl, Nat.le_of_ble_eq_true rfl⟩ tg_l_isl tg_in_isl tg_se_isl rfl (Nat.le_of_ble_eq_true rfl) dJ0_charAt_5068e_1 ⟨Nat.le_refl 0, Nat.le_refl 0⟩ ?_
  refine G.if_eq (tgt := 16) C dJ0_charAt_5068e_4 (by decide) (fun hc => absurd hc (by decide)) (fun _ => ?_)
  refine G.aload_n C 0 dJ0_charAt_5068e_7 rfl rfl ?_
  refine G.sval C hi tg_value dJ0_charAt_5068e_8 ?_
  refine G.iload_n C 1 dJ0_charAt_5068e_11 rfl rfl ?_
  refine G.callS (rest := []) C (s_l1char hi hk) ⟨tg_c_l1c, tg_i_L1, ok_l1c, Nat.le_of_ble_eq_true rfl, Nat.le_of_ble_eq_true rfl⟩ tg_l_l1c tg_st_l1c rfl (Nat.le_of_ble_eq_true rfl) dJ0_charAt_5068e_12 ⟨Nat.le_refl 0, Nat.le_refl 0⟩ ?_
  exact G.zret C hr (strC_ok i hi (ix k) hlt).2 dJ0_charAt_5068e_15
section GS2
variable {p : Program} {l : Launch} {e : Env} {R : Room} {s : State} {m : MethodId} {args : Array Value} {below : List Frame} {meth : Method} {c : Code} {E : Ev} {nL cells slots : Nat} {Q : State → Prop} {own : String} {cc : ByteArray} {pc : Nat} {L : List (Nat × Value)} {st rest : List Value} {M : Mm} {index : Nat}
theorem G.slen (i : Nat) {v : Int32} (C : Cx own cc nL p R s m args meth c E) (hi : i < 8) (hv : Int32.ofNat (strN.getD i 0) = v) (hl : Cond.methodLink own index yJ0_length_8abf5 ∈ tblG) (hcat : (rest.map fun v => v.category).sum ≤ 8) (hd : decode cc pc = .ok (.invokevirtual index, 3)) (hR : 5 ≤ R.frames ∧ 320 ≤ R.locals) (h0 : cells ≤ R.cells ∧ slots ≤ R.slots)
    (kk : G p l e R s m args below meth c E nL cells slots Q (pc + 3) L (.int v :: rest) M) : G p l e R s m args below meth c E nL cells slots Q pc L (.ref (eX E (1 + i)) :: rest) M := by
  subst hv
  exact G.callVs (As := []) (rest := rest) C hi (s_slength hi) ⟨tg_c_len, tg_i_String, ok_len, by omega, by omega⟩ hl tg_in_len tg_se_len rfl hcat hd h0 kk
theorem G.schr (i : Nat) (C : Cx own cc nL p R s m args meth c E) (hi : i < 8) {k : Int32} (hk : inb k (strN.getD i 0) = true) (hl : Cond.methodLink own index yJ0_charAt_5068e ∈ tblG) (hcat : (rest.map fun v => v.category).sum ≤ 8) (hd : decode cc pc = .ok (.invokevirtual index, 3)) (hR : 5 ≤ R.frames ∧ 320 ≤ R.locals) (h0 : cells ≤ R.cells ∧ slots ≤ R.slots)
    (kk : G p l e R s m args below meth c E nL cells slots Q (pc + 3) L (.int (strC i (ix k)) :: rest) M) : G p l e R s m args below meth c E nL cells slots Q pc L (.int k :: .ref (eX E (1 + i)) :: rest) M :=
  G.callVs (As := [.int k]) (rest := rest) C hi (s_scharAt hi hk) ⟨tg_c_chr, tg_i_String, ok_chr, by omega, by omega⟩ hl tg_in_chr tg_se_chr rfl hcat hd h0 kk
end GS2
