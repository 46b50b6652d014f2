section
variable {p : Program} {l : Launch} {e : Env} {s : State} {m : MethodId} {args : Array Value} {below : List Frame} {meth : Method} {c : Code} {E : Ev}
def bb_J7_fill_53178_38_5 (k_5 : Int32 → Int32 → Int32 → Mm → Option Mm) (x1 : Int32) (x2 : Int32) (x3 : Int32) (M : Mm) : Option Mm := if x3 ≤ x2 then (some M) else (gd (inb x2 17) (ltv (wI M 38 (ix x2) x1) fun M_2 => ltv (x2 + (1 : Int32)) fun x2_3 => k_5 x1 x2_3 x3 M_2))
set_option maxHeartbeats 4000000 in
set_option maxRecDepth 100000 in
theorem gb_J7_fill_53178_38_5  {k_5 : Int32 → Int32 → Int32 → Mm → Option Mm} {x1 : Int32} {x2 : Int32} {x3 : Int32} {M : Mm} {M' : Mm} (hE : Has shC (eH E)) (C : Cx RJ7 cJ7_fill_53178 4 p (rmD 1) s m args meth c E) (hr : meth.sig.returnType = none) (hk_5 : ∀ (x1 : Int32) (x2 : Int32) (x3 : Int32) (M : Mm), k_5 x1 x2 x3 M = some M' → G p l e (rmD 1) s m args below meth c E 4 0 0 (QR below args s E 0 0 none M') 5 [(0, .ref (eA E 38)), (1, .int x1), (2, .int x2), (3, .int x3)] [] M) (h : bb_J7_fill_53178_38_5 k_5 x1 x2 x3 M = some M') : G p l e (rmD 1) s m args below meth c E 4 0 0 (QR below args s E 0 0 none M') 5 [(0, .ref (eA E 38)), (1, .int x1), (2, .int x2), (3, .int x3)] [] M := by
  unfold bb_J7_fill_53178_38_5 at h
  refine G.iload_n C 2 dJ7_fill_53178_5 rfl rfl ?_
  refine G.iload_n C 3 dJ7_fill_53178_6 rfl rfl ?_
  refine G.icmp_ge (tgt := 20) C dJ7_fill_53178_7 (by decide) (fun hc => ?_) (fun hc => ?_)
  · have h := it_t h hc
    cases h
    exact G.vret C hr dJ7_fill_53178_20
  · have h := it_f h hc
    refine G.aload_n C 0 dJ7_fill_53178_10 rfl rfl ?_
    refine G.iload_n C 2 dJ7_fill_53178_11 rfl rfl ?_
    refine G.iload_n C 1 dJ7_fill_53178_12 rfl rfl ?_
    obtain ⟨hg_1, h⟩ := gd_ex h
    obtain ⟨M_2, eM_2, h⟩ := ltv_ex h
    refine G.sI (j := (ix x2)) C (sc_38 hE) hg_1 rfl dJ7_fill_53178_13 eM_2 ?_
    obtain ⟨x2_3, ex2_3, h⟩ := ltv_ex h
    refine G.iinc (L' := [(2, .int x2_3), (0, .ref (eA E 38)), (1, .int x1), (3, .int x3)]) C 2 dJ7_fill_53178_14 rfl (ex2_3.trans rfl) (by decide) rfl ?_
    refine G.goto (tgt := 5) C dJ7_fill_53178_17 (by decide) ?_
    exact G.sub [1, 2, 0, 3] rfl (hk_5 _ _ _ _  h)
def b_J7_fill_53178_38_5 : Nat → Int32 → Int32 → Int32 → Mm → Option Mm
  | 0, _, _, _, _ => none
  | n + 1, x1, x2, x3, M => bb_J7_fill_53178_38_5 (b_J7_fill_53178_38_5 n) x1 x2 x3 M
set_option maxHeartbeats 4000000 in
theorem g_J7_fill_53178_38_5  {n : Nat} {x1 : Int32} {x2 : Int32} {x3 : Int32} {M : Mm} {M' : Mm} (hE : Has shC (eH E)) (C : Cx RJ7 cJ7_fill_53178 4 p (rmD 1) s m args meth c E) (hr : meth.sig.returnType = none) (h : b_J7_fill_53178_38_5 n x1 x2 x3 M = some M') : G p l e (rmD 1) s m args below meth c E 4 0 0 (QR below args s E 0 0 none M') 5 [(0, .ref (eA E 38)), (1, .int x1), (2, .int x2), (3, .int x3)] [] M := by
  induction n generalizing x1 x2 x3 M with
  | zero => cases h
  | succ n ih => exact gb_J7_fill_53178_38_5 hE C hr (fun _ _ _ _ => ih)  h
def bb_J7_fill_53178_38_0 (x1 : Int32) (M : Mm) : Option Mm := b_J7_fill_53178_38_5 FU x1 (0 : Int32) (17 : Int32) M
set_option maxHeartbeats 4000000 in
set_option maxRecDepth 100000 in
theorem gb_J7_fill_53178_38_0  {x1 : Int32} {M : Mm} {M' : Mm} (hE : Has shC (eH E)) (C : Cx RJ7 cJ7_fill_53178 4 p (rmD 1) s m args meth c E) (hr : meth.sig.returnType = none) (h : bb_J7_fill_53178_38_0 x1 M = some M') : G p l e (rmD 1) s m args below meth c E 4 0 0 (QR below args s E 0 0 none M') 0 [(0, .ref (eA E 38)), (1, .int x1)] [] M := by
  unfold bb_J7_fill_53178_38_0 at h
  refine G.iconst (v := (0 : Int32)) C dJ7_fill_53178_0 (by decide) ?_
  refine G.istore_n (L' := [(2, .int (0 : Int32)), (0, .ref (eA E 38)), (1, .int x1)]) C dJ7_fill_53178_1 rfl rfl (by decide) rfl ?_
  refine G.aload_n C 1 dJ7_fill_53178_2 rfl rfl ?_
  refine G.alen (v := (17 : Int32)) C (sc_38 hE) rfl (by decide) dJ7_fill_53178_3 ?_
  refine G.istore_n (L' := [(3, .int (17 : Int32)), (2, .int (0 : Int32)), (0, .ref (eA E 38)), (1, .int x1)]) C dJ7_fill_53178_4 rfl rfl (by decide) rfl ?_
  exact G.sub [2, 3, 1, 0] rfl (g_J7_fill_53178_38_5 hE C hr  h)
def f_J7_fill_53178_38 (x1 : Int32) (M : Mm) : Option Mm := bb_J7_fill_53178_38_0 x1 M
theorem s_J7_fill_53178_38 {l : Launch} {E : Ev} {x1 : Int32} {M : Mm} {M' : Mm} (hE : Has shC (eH E)) (h : f_J7_fill_53178_38 x1 M = some M') : MetA l yJ7_fill_53178 cJ7_fill_53178 4 none 1 E [.ref (eA E 38), .int x1] M none M' := by
  refine MetA.of (by decide +kernel) (Nat.le_of_ble_eq_true rfl) ?_
  intro p e s m below meth c C hr hnm
  exact G.sub [0, 1] rfl (gb_J7_fill_53178_38_0 hE C hr  h)
def bb_J7_fill_53178_43_5 (k_5 : Int32 → Int32 → Int32 → Mm → Option Mm) (x1 : Int32) (x2 : Int32) (x3 : Int32) (M : Mm) : Option Mm := if x3 ≤ x2 then (some M) else (gd (inb x2 60) (ltv (wI M 43 (ix x2) x1) fun M_2 => ltv (x2 + (1 : Int32)) fun x2_3 => k_5 x1 x2_3 x3 M_2))
set_option maxHeartbeats 4000000 in
set_option maxRecDepth 100000 in
theorem gb_J7_fill_53178_43_5  {k_5 : Int32 → Int32 → Int32 → Mm → Option Mm} {x1 : Int32} {x2 : Int32} {x3 : Int32} {M : Mm} {M' : Mm} (hE : Has shC (eH E)) (C : Cx RJ7 cJ7_fill_53178 4 p (rmD 1) s m args meth c E) (hr : meth.sig.returnType = none) (hk_5 : ∀ (x1 : Int32) (x2 : Int32) (x3 : Int32) (M : Mm), k_5 x1 x2 x3 M = some M' → G p l e (rmD 1) s m args below meth c E 4 0 0 (QR below args s E 0 0 none M') 5 [(0, .ref (eA E 43)), (1, .int x1), (2, .int x2), (3, .int x3)] [] M) (h : bb_J7_fill_53178_43_5 k_5 x1 x2 x3 M = some M') : G p l e (rmD 1) s m args below meth c E 4 0 0 (QR below args s E 0 0 none M') 5 [(0, .ref (eA E 43)), (1, .int x1), (2, .int x2), (3, .int x3)] [] M := by
  unfold bb_J7_fill_53178_43_5 at h
  refine G.iload_n C 2 dJ7_fill_53178_5 rfl rfl ?_
  refine G.iload_n C 3 dJ7_fill_53178_6 rfl rfl ?_
  refine G.icmp_ge (tgt := 20) C dJ7_fill_53178_7 (by decide) (fun hc => ?_) (fun hc => ?_)
  · have h := it_t h hc
    cases h
    exact G.vret C hr dJ7_fill_53178_20
  · have h := it_f h hc
    refine G.aload_n C 0 dJ7_fill_53178_10 rfl rfl ?_
    refine G.iload_n C 2 dJ7_fill_53178_11 rfl rfl ?_
    refine G.iload_n C 1 dJ7_fill_53178_12 rfl rfl ?_
    obtain ⟨hg_1, h⟩ := gd_ex h
    obtain ⟨M_2, eM_2, h⟩ := ltv_ex h
    refine G.sI (j := (ix x2)) C (sc_43 hE) hg_1 rfl dJ7_fill_53178_13 eM_2 ?_
    obtain ⟨x2_3, ex2_3, h⟩ := ltv_ex h
    refine G.iinc (L' := [(2, .int x2_3), (0, .ref (eA E 43)), (1, .int x1), (3, .int x3)]) C 2 dJ7_fill_53178_14 rfl (ex2_3.trans rfl) (by decide) rfl ?_
    refine G.goto (tgt := 5) C dJ7_fill_53178_17 (by decide) ?_
    exact G.sub [1, 2, 0, 3] rfl (hk_5 _ _ _ _  h)
def b_J7_fill_53178_43_5 : Nat → Int32 → Int32 → Int32 → Mm → Option Mm
  | 0, _, _, _, _ => none
  | n + 1, x1, x2, x3, M => bb_J7_fill_53178_43_5 (b_J7_fill_53178_43_5 n) x1 x2 x3 M
set_option maxHeartbeats 4000000 in
theorem g_J7_fill_53178_43_5  {n : Nat} {x1 : Int32} {x2 : Int32} {x3 : Int32} {M : Mm} {M' : Mm} (hE : Has shC (eH E)) (C : Cx RJ7 cJ7_fill_53178 4 p (rmD 1) s m args meth c E) (hr : meth.sig.returnType = none) (h : b_J7_fill_53178_43_5 n x1 x2 x3 M = some M') : G p l e (rmD 1) s m args below meth c E 4 0 0 (QR below args s E 0 0 none M') 5 [(0, .ref (eA E 43)), (1, .int x1), (2, .int x2), (3, .int x3)] [] M := by
  induction n generalizing x1 x2 x3 M with
  | zero => cases h
  | succ n ih => exact gb_J7_fill_53178_43_5 hE C hr (fun _ _ _ _ => ih)  h
def bb_J7_fill_53178_43_0 (x1 : Int32) (M : Mm) : Option Mm := b_J7_fill_53178_43_5 FU x1 (0 : Int32) (60 : Int32) M
set_option maxHeartbeats 4000000 in
set_option maxRecDepth 100000 in
theorem gb_J7_fill_53178_43_0  {x1 : Int32} {M : Mm} {M' : Mm} (hE : Has shC (eH E)) (C : Cx RJ7 cJ7_fill_53178 4 p (rmD 1) s m args meth c E) (hr : meth.sig.returnType = none) (h : bb_J7_fill_53178_43_0 x1 M = some M') : G p l e (rmD 1) s m args below meth c E 4 0 0 (QR below args s E 0 0 none M') 0 [(0, .ref (eA E 43)), (1, .int x1)] [] M := by
  unfold bb_J7_fill_53178_43_0 at h
  refine G.iconst (v := (0 : Int32)) C dJ7_fill_53178_0 (by decide) ?_
  refine G.istore_n (L' := [(2, .int (0 : Int32)), (0, .ref (eA E 43)), (1, .int x1)]) C dJ7_fill_53178_1 rfl rfl (by decide) rfl ?_
  refine G.aload_n C 1 dJ7_fill_53178_2 rfl rfl ?_
  refine G.alen (v := (60 : Int32)) C (sc_43 hE) rfl (by decide) dJ7_fill_53178_3 ?_
  refine G.istore_n (L' := [(3, .int (60 : Int32)), (2, .int (0 : Int32)), (0, .ref (eA E 43)), (1, .int x1)]) C dJ7_fill_53178_4 rfl rfl (by decide) rfl ?_
  exact G.sub [2, 3, 1, 0] rfl (g_J7_fill_53178_43_5 hE C hr  h)
def f_J7_fill_53178_43 (x1 : Int32) (M : Mm) : Option Mm := bb_J7_fill_53178_43_0 x1 M
theorem s_J7_fill_53178_43 {l : Launch} {E : Ev} {x1 : Int32} {M : Mm} {M' : Mm} (hE : Has shC (eH E)) (h : f_J7_fill_53178_43 x1 M = some M') : MetA l yJ7_fill_53178 cJ7_fill_53178 4 none 1 E [.ref (eA E 43), .int x1] M none M' := by
  refine MetA.of (by decide +kernel) (Nat.le_of_ble_eq_true rfl) ?_
  intro p e s m below meth c C hr hnm
  exact G.sub [0, 1] rfl (gb_J7_fill_53178_43_0 hE C hr  h)
def bb_X7_wordLetter_11_0 (x1 : Int32) (x2 : Int32) (M : Mm) : Option Int32 := if x1 < 0 then (some (0 : Int32)) else (if (M.1 11 8) ≤ x1 then (some (0 : Int32)) else (if x2 < 0 then (some (0 : Int32)) else (if x2 < (8 : Int32) then (gd (inb (((8 : Int32) * x1) + x2) 48) (some (M.1 14 (ix (((8 : Int32) * x1) + x2))))) else (some (0 : Int32)))))
set_option maxHeartbeats 4000000 in
set_option maxRecDepth 100000 in
theorem gb_X7_wordLetter_11_0  {x1 : Int32} {x2 : Int32} {M : Mm} {v : Int32} (hE : Has shC (eH E)) (C : Cx RX7 cX7_wordLetter 3 p (rmD 1) s m args meth c E) (hr : meth.sig.returnType = (some .int)) (h : bb_X7_wordLetter_11_0 x1 x2 M = some v) : G p l e (rmD 1) s m args below meth c E 3 0 0 (QR below args s E 0 0 (some (.int v)) M) 0 [(0, .ref (eA E 11)), (1, .int x1), (2, .int x2)] [] M := by
  unfold bb_X7_wordLetter_11_0 at h
  refine G.iload_n C 1 dX7_wordLetter_0 rfl rfl ?_
  refine G.if_lt (tgt := 22) C dX7_wordLetter_1 (by decide) (fun hc => ?_) (fun hc => ?_)
  · have h := it_t h hc
    refine G.iconst (v := (0 : Int32)) C dX7_wordLetter_22 (by decide) ?_
    cases h
    exact G.iret C hr dX7_wordLetter_23
  · have h := it_f h hc
    refine G.iload_n C 1 dX7_wordLetter_4 rfl rfl ?_
    refine G.aload_n C 0 dX7_wordLetter_5 rfl rfl ?_
    refine G.getI (k := 8) C k_X7 (sc_11 hE) rfl (by decide) tg_162 dX7_wordLetter_6 ?_
    refine G.icmp_ge (tgt := 22) C dX7_wordLetter_9 (by decide) (fun hc => ?_) (fun hc => ?_)
    · have h := it_t h hc
      refine G.iconst (v := (0 : Int32)) C dX7_wordLetter_22 (by decide) ?_
      cases h
      exact G.iret C hr dX7_wordLetter_23
    · have h := it_f h hc
      refine G.iload_n C 2 dX7_wordLetter_12 rfl rfl ?_
      refine G.if_lt (tgt := 22) C dX7_wordLetter_13 (by decide) (fun hc => ?_) (fun hc => ?_)
      · have h := it_t h hc
        refine G.iconst (v := (0 : Int32)) C dX7_wordLetter_22 (by decide) ?_
        cases h
        exact G.iret C hr dX7_wordLetter_23
      · have h := it_f h hc
        refine G.iload_n C 2 dX7_wordLetter_16 rfl rfl ?_
        refine G.bipush (v := (8 : Int32)) C dX7_wordLetter_17 (by decide) ?_
        refine G.icmp_lt (tgt := 24) C dX7_wordLetter_19 (by decide) (fun hc => ?_) (fun hc => ?_)
        · have h := it_t h hc
          refine G.aload_n C 0 dX7_wordLetter_24 rfl rfl ?_
          refine G.getR (k := 2) C k_X7 (sc_11 hE) rfl (by decide) tg_140 dX7_wordLetter_25 ?_
          refine G.bipush (v := (8 : Int32)) C dX7_wordLetter_28 (by decide) ?_
          refine G.iload_n C 1 dX7_wordLetter_30 rfl rfl ?_
          refine G.imul C dX7_wordLetter_31 ?_
          refine G.iload_n C 2 dX7_wordLetter_32 rfl rfl ?_
          refine G.iadd C dX7_wordLetter_33 ?_
          obtain ⟨hg_1, h⟩ := gd_ex h
          refine G.aI (j := ix (((8 : Int32) * x1) + x2)) C (sc_14 hE) hg_1 rfl dX7_wordLetter_34 ?_
          cases h
          exact G.iret C hr dX7_wordLetter_35
        · have h := it_f h hc
          refine G.iconst (v := (0 : Int32)) C dX7_wordLetter_22 (by decide) ?_
          cases h
          exact G.iret C hr dX7_wordLetter_23
def f_X7_wordLetter_11 (x1 : Int32) (x2 : Int32) (M : Mm) : Option Int32 := bb_X7_wordLetter_11_0 x1 x2 M
theorem s_X7_wordLetter_11 {l : Launch} {E : Ev} {x1 : Int32} {x2 : Int32} {M : Mm} {v : Int32} (hE : Has shC (eH E)) (h : f_X7_wordLetter_11 x1 x2 M = some v) : MetA l yX7_wordLetter cX7_wordLetter 3 (some .int) 1 E [.ref (eA E 11), .int x1, .int x2] M (some (.int v)) M := by
  refine MetA.of (by decide +kernel) (Nat.le_of_ble_eq_true rfl) ?_
  intro p e s m below meth c C hr hnm
  exact G.sub [0, 1, 2] rfl (gb_X7_wordLetter_11_0 hE C hr  h)
def bb_X6_lay_34_11_100 (k_90 : Int32 → Mm → Option Mm) (k_100 : Int32 → Int32 → Mm → Option Mm) (x2 : Int32) (x3 : Int32) (M : Mm) : Option Mm := gd (inb x2 6) (if (M.1 15 (ix x2)) ≤ x3 then (ltv (x2 + (1 : Int32)) fun x2_25 => k_90 x2_25 M) else (bd (f_X7_wordLetter_11 x2 x3 M) fun v_27 => ltv (((10 : Int32) * x2) + v_27) fun y_28 => gd (inb y_28 60) (gd (inb y_28 60) (ltv (wI M 43 (ix y_28) ((M.1 43 (ix y_28)) + (1 : Int32))) fun M_31 => ltv (x3 + (1 : Int32)) fun x3_32 => k_100 x2 x3_32 M_31))))
set_option maxHeartbeats 4000000 in
set_option maxRecDepth 100000 in
theorem gb_X6_lay_34_11_100  {k_90 : Int32 → Mm → Option Mm} {k_100 : Int32 → Int32 → Mm → Option Mm} {x2 : Int32} {x3 : Int32} {M : Mm} {M' : Mm} (hE : Has shC (eH E)) (C : Cx RX6 cX6_lay 5 p (rmD 3) s m args meth c E) (hr : meth.sig.returnType = none) (hk_90 : ∀ (x2 : Int32) (M : Mm), k_90 x2 M = some M' → G p l e (rmD 3) s m args below meth c E 5 0 0 (QR below args s E 0 0 none M') 90 [(0, .ref (eA E 34)), (1, .ref (eA E 11)), (2, .int x2)] [] M) (hk_100 : ∀ (x2 : Int32) (x3 : Int32) (M : Mm), k_100 x2 x3 M = some M' → G p l e (rmD 3) s m args below meth c E 5 0 0 (QR below args s E 0 0 none M') 100 [(0, .ref (eA E 34)), (1, .ref (eA E 11)), (2, .int x2), (3, .int x3)] [] M) (h : bb_X6_lay_34_11_100 k_90 k_100 x2 x3 M = some M') : G p l e (rmD 3) s m args below meth c E 5 0 0 (QR below args s E 0 0 none M') 100 [(0, .ref (eA E 34)), (1, .ref (eA E 11)), (2, .int x2), (3, .int x3)] [] M := by
  unfold bb_X6_lay_34_11_100 at h
  refine G.iload_n C 3 dX6_lay_100 rfl rfl ?_
  refine G.aload_n C 1 dX6_lay_101 rfl rfl ?_
  refine G.getRN (k := 3) C k_X7 (sc_11 hE) rfl (by decide) tw_143 dX6_lay_102 ?_
  refine G.iload_n C 2 dX6_lay_105 rfl rfl ?_
  obtain ⟨hg_24, h⟩ := gd_ex h
  refine G.aI (j := ix x2) C (sc_15 hE) hg_24 rfl dX6_lay_106 ?_
  refine G.icmp_ge (tgt := 136) C dX6_lay_107 (by decide) (fun hc => ?_) (fun hc => ?_)
  · have h := it_t h hc
    obtain ⟨x2_25, ex2_25, h⟩ := ltv_ex h
    refine G.iinc (L' := [(2, .int x2_25), (0, .ref (eA E 34)), (1, .ref (eA E 11)), (3, .int x3)]) C 2 dX6_lay_136 rfl (ex2_25.trans rfl) (by decide) rfl ?_
    refine G.goto (tgt := 90) C dX6_lay_139 (by decide) ?_
    exact G.sub [1, 2, 0] rfl (hk_90 _ _  h)
  · have h := it_f h hc
    refine G.aload_n C 0 dX6_lay_110 rfl rfl ?_
    refine G.getR (k := 10) C k_X6 (sc_34 hE) rfl (by decide) tg_306 dX6_lay_111 ?_
    refine G.bipush (v := (10 : Int32)) C dX6_lay_114 (by decide) ?_
    refine G.iload_n C 2 dX6_lay_116 rfl rfl ?_
    refine G.imul C dX6_lay_117 ?_
    refine G.aload_n C 1 dX6_lay_118 rfl rfl ?_
    refine G.iload_n C 2 dX6_lay_119 rfl rfl ?_
    refine G.iload_n C 3 dX6_lay_120 rfl rfl ?_
    obtain ⟨v_27, hv_26, h⟩ := bd_ex h
    refine G.callV (rest := [.int ((10 : Int32) * x2), .ref (eA E 43)]) C (s_X7_wordLetter_11 hE  hv_26) ⟨tg_478, tg_92, ok_X7_wordLetter, Nat.le_of_ble_eq_true rfl, Nat.le_of_ble_eq_true rfl⟩ tg_475 tg_476 tg_477 (sc_11 hE) rfl rfl (Nat.le_of_ble_eq_true rfl) dX6_lay_121 ⟨Nat.le_refl 0, Nat.le_refl 0⟩ ?_
    refine G.iadd C dX6_lay_124 ?_
    obtain ⟨y_28, ey_28, h⟩ := ltv_ex h
    rw [← ey_28]
    refine G.dup2_11 C dX6_lay_125 rfl rfl ?_
    obtain ⟨hg_29, h⟩ := gd_ex h
    refine G.aI (j := ix y_28) C (sc_43 hE) hg_29 rfl dX6_lay_126 ?_
    refine G.iconst (v := (1 : Int32)) C dX6_lay_127 (by decide) ?_
    refine G.iadd C dX6_lay_128 ?_
    obtain ⟨hg_30, h⟩ := gd_ex h
    obtain ⟨M_31, eM_31, h⟩ := ltv_ex h
    refine G.sI (j := (ix y_28)) C (sc_43 hE) hg_30 rfl dX6_lay_129 eM_31 ?_
    obtain ⟨x3_32, ex3_32, h⟩ := ltv_ex h
    refine G.iinc (L' := [(3, .int x3_32), (0, .ref (eA E 34)), (1, .ref (eA E 11)), (2, .int x2)]) C 3 dX6_lay_130 rfl (ex3_32.trans rfl) (by decide) rfl ?_
    refine G.goto (tgt := 100) C dX6_lay_133 (by decide) ?_
    exact G.sub [1, 2, 3, 0] rfl (hk_100 _ _ _  h)
def b_X6_lay_34_11_100 (k_90 : Int32 → Mm → Option Mm) : Nat → Int32 → Int32 → Mm → Option Mm
  | 0, _, _, _ => none
  | n + 1, x2, x3, M => bb_X6_lay_34_11_100 k_90 (b_X6_lay_34_11_100 k_90 n) x2 x3 M
set_option maxHeartbeats 4000000 in
theorem g_X6_lay_34_11_100  {k_90 : Int32 → Mm → Option Mm} {n : Nat} {x2 : Int32} {x3 : Int32} {M : Mm} {M' : Mm} (hE : Has shC (eH E)) (C : Cx RX6 cX6_lay 5 p (rmD 3) s m args meth c E) (hr : meth.sig.returnType = none) (hk_90 : ∀ (x2 : Int32) (M : Mm), k_90 x2 M = some M' → G p l e (rmD 3) s m args below meth c E 5 0 0 (QR below args s E 0 0 none M') 90 [(0, .ref (eA E 34)), (1, .ref (eA E 11)), (2, .int x2)] [] M) (h : b_X6_lay_34_11_100 k_90 n x2 x3 M = some M') : G p l e (rmD 3) s m args below meth c E 5 0 0 (QR below args s E 0 0 none M') 100 [(0, .ref (eA E 34)), (1, .ref (eA E 11)), (2, .int x2), (3, .int x3)] [] M := by
  induction n generalizing x2 x3 M with
  | zero => cases h
  | succ n ih => exact gb_X6_lay_34_11_100 hE C hr hk_90 (fun _ _ _ => ih)  h
def bb_X6_lay_34_11_90 (k_90 : Int32 → Mm → Option Mm) (x2 : Int32) (M : Mm) : Option Mm := if (M.1 34 1) ≤ x2 then (some M) else (b_X6_lay_34_11_100 k_90 FU x2 (0 : Int32) M)
set_option maxHeartbeats 4000000 in
set_option maxRecDepth 100000 in
theorem gb_X6_lay_34_11_90  {k_90 : Int32 → Mm → Option Mm} {x2 : Int32} {M : Mm} {M' : Mm} (hE : Has shC (eH E)) (C : Cx RX6 cX6_lay 5 p (rmD 3) s m args meth c E) (hr : meth.sig.returnType = none) (hk_90 : ∀ (x2 : Int32) (M : Mm), k_90 x2 M = some M' → G p l e (rmD 3) s m args below meth c E 5 0 0 (QR below args s E 0 0 none M') 90 [(0, .ref (eA E 34)), (1, .ref (eA E 11)), (2, .int x2)] [] M) (h : bb_X6_lay_34_11_90 k_90 x2 M = some M') : G p l e (rmD 3) s m args below meth c E 5 0 0 (QR below args s E 0 0 none M') 90 [(0, .ref (eA E 34)), (1, .ref (eA E 11)), (2, .int x2)] [] M := by
  unfold bb_X6_lay_34_11_90 at h
  refine G.iload_n C 2 dX6_lay_90 rfl rfl ?_
  refine G.aload_n C 0 dX6_lay_91 rfl rfl ?_
  refine G.getI (k := 1) C k_X6 (sc_34 hE) rfl (by decide) tg_297 dX6_lay_92 ?_
  refine G.icmp_ge (tgt := 142) C dX6_lay_95 (by decide) (fun hc => ?_) (fun hc => ?_)
  · have h := it_t h hc
    cases h
    exact G.vret C hr dX6_lay_142
  · have h := it_f h hc
    refine G.iconst (v := (0 : Int32)) C dX6_lay_98 (by decide) ?_
    refine G.istore_n (L' := [(3, .int (0 : Int32)), (0, .ref (eA E 34)), (1, .ref (eA E 11)), (2, .int x2)]) C dX6_lay_99 rfl rfl (by decide) rfl ?_
    exact G.sub [1, 2, 3, 0] rfl (g_X6_lay_34_11_100 hE C hr hk_90  h)
def b_X6_lay_34_11_90 : Nat → Int32 → Mm → Option Mm
  | 0, _, _ => none
  | n + 1, x2, M => bb_X6_lay_34_11_90 (b_X6_lay_34_11_90 n) x2 M
set_option maxHeartbeats 4000000 in
theorem g_X6_lay_34_11_90  {n : Nat} {x2 : Int32} {M : Mm} {M' : Mm} (hE : Has shC (eH E)) (C : Cx RX6 cX6_lay 5 p (rmD 3) s m args meth c E) (hr : meth.sig.returnType = none) (h : b_X6_lay_34_11_90 n x2 M = some M') : G p l e (rmD 3) s m args below meth c E 5 0 0 (QR below args s E 0 0 none M') 90 [(0, .ref (eA E 34)), (1, .ref (eA E 11)), (2, .int x2)] [] M := by
  induction n generalizing x2 M with
  | zero => cases h
  | succ n ih => exact gb_X6_lay_34_11_90 hE C hr (fun _ _ => ih)  h
def bb_X6_lay_34_11_18 (k_18 : Int32 → Mm → Option Mm) (x2 : Int32) (M : Mm) : Option Mm := if (M.1 34 0) ≤ x2 then (bd (f_J7_fill_53178_38 (-2 : Int32) M) fun M_4 => bd (f_J7_fill_53178_43 (0 : Int32) M_4) fun M_6 => b_X6_lay_34_11_90 FU (0 : Int32) M_6) else (bd (f_X7_inkOf_11 x2 M) fun v_8 => bd (f_J13_bitCount_95d88 v_8) fun v_10 => gd (inb x2 10) (ltv (wI M 35 (ix x2) v_10) fun M_12 => bd (f_X4_beside v_8) fun v_14 => bd (f_J13_bitCount_95d88 v_14) fun v_16 => gd (inb x2 10) (ltv (wI M_12 36 (ix x2) v_16) fun M_18 => bd (f_X4_broad v_8) fun v_20 => gd (inb x2 10) (ltv (wI M_18 37 (ix x2) v_20) fun M_22 => ltv (x2 + (1 : Int32)) fun x2_23 => k_18 x2_23 M_22))))
set_option maxHeartbeats 4000000 in
set_option maxRecDepth 100000 in
theorem gb_X6_lay_34_11_18  {k_18 : Int32 → Mm → Option Mm} {x2 : Int32} {M : Mm} {M' : Mm} (hE : Has shC (eH E)) (C : Cx RX6 cX6_lay 5 p (rmD 3) s m args meth c E) (hr : meth.sig.returnType = none) (hk_18 : ∀ (x2 : Int32) (M : Mm), k_18 x2 M = some M' → G p l e (rmD 3) s m args below meth c E 5 0 0 (QR below args s E 0 0 none M') 18 [(0, .ref (eA E 34)), (1, .ref (eA E 11)), (2, .int x2)] [] M) (h : bb_X6_lay_34_11_18 k_18 x2 M = some M') : G p l e (rmD 3) s m args below meth c E 5 0 0 (QR below args s E 0 0 none M') 18 [(0, .ref (eA E 34)), (1, .ref (eA E 11)), (2, .int x2)] [] M := by
  unfold bb_X6_lay_34_11_18 at h
  refine G.iload_n C 2 dX6_lay_18 rfl rfl ?_
  refine G.aload_n C 0 dX6_lay_19 rfl rfl ?_
  refine G.getI (k := 0) C k_X6 (sc_34 hE) rfl (by decide) tg_296 dX6_lay_20 ?_
  refine G.icmp_ge (tgt := 71) C dX6_lay_23 (by decide) (fun hc => ?_) (fun hc => ?_)
  · have h := it_t h hc
    refine G.aload_n C 0 dX6_lay_71 rfl rfl ?_
    refine G.getR (k := 5) C k_X6 (sc_34 hE) rfl (by decide) tg_301 dX6_lay_72 ?_
    refine G.bipush (v := (-2 : Int32)) C dX6_lay_75 (by decide) ?_
    obtain ⟨M_4, hv_3, h⟩ := bd_ex h
    refine G.callS (rest := []) C (s_J7_fill_53178_38 hE  hv_3) ⟨tg_411, tg_99, ok_J7_fill_53178, Nat.le_of_ble_eq_true rfl, Nat.le_of_ble_eq_true rfl⟩ tg_474 tg_410 rfl (Nat.le_of_ble_eq_true rfl) dX6_lay_77 ⟨Nat.le_refl 0, Nat.le_refl 0⟩ ?_
    refine G.aload_n C 0 dX6_lay_80 rfl rfl ?_
    refine G.getR (k := 10) C k_X6 (sc_34 hE) rfl (by decide) tg_306 dX6_lay_81 ?_
    refine G.iconst (v := (0 : Int32)) C dX6_lay_84 (by decide) ?_
    obtain ⟨M_6, hv_5, h⟩ := bd_ex h
    refine G.callS (rest := []) C (s_J7_fill_53178_43 hE  hv_5) ⟨tg_411, tg_99, ok_J7_fill_53178, Nat.le_of_ble_eq_true rfl, Nat.le_of_ble_eq_true rfl⟩ tg_474 tg_410 rfl (Nat.le_of_ble_eq_true rfl) dX6_lay_85 ⟨Nat.le_refl 0, Nat.le_refl 0⟩ ?_
    refine G.iconst (v := (0 : Int32)) C dX6_lay_88 (by decide) ?_
    refine G.istore_n (L' := [(2, .int (0 : Int32)), (0, .ref (eA E 34)), (1, .ref (eA E 11))]) C dX6_lay_89 rfl rfl (by decide) rfl ?_
    exact G.sub [1, 2, 0] rfl (g_X6_lay_34_11_90 hE C hr  h)
  · have h := it_f h hc
    refine G.aload_n C 1 dX6_lay_26 rfl rfl ?_
    refine G.iload_n C 2 dX6_lay_27 rfl rfl ?_
    obtain ⟨v_8, hv_7, h⟩ := bd_ex h
    refine G.callV (rest := []) C (s_X7_inkOf_11 hE  hv_7) ⟨tg_454, tg_92, ok_X7_inkOf, Nat.le_of_ble_eq_true rfl, Nat.le_of_ble_eq_true rfl⟩ tg_451 tg_452 tg_453 (sc_11 hE) rfl rfl (Nat.le_of_ble_eq_true rfl) dX6_lay_28 ⟨Nat.le_refl 0, Nat.le_refl 0⟩ ?_
    refine G.lstore_n (L' := [(3, .long v_8), (0, .ref (eA E 34)), (1, .ref (eA E 11)), (2, .int x2)]) C dX6_lay_31 rfl rfl (by decide) rfl ?_
    refine G.aload_n C 1 dX6_lay_32 rfl rfl ?_
    refine G.getR (k := 2) C k_X6 (sc_34 hE) rfl (by decide) tg_298 dX6_lay_33 ?_
    refine G.iload_n C 3 dX6_lay_36 rfl rfl ?_
    refine G.lload_n C 0 dX6_lay_37 rfl rfl ?_
    obtain ⟨v_10, hv_9, h⟩ := bd_ex h
    refine G.callS (rest := [.int x2, .ref (eA E 35)]) C (s_J13_bitCount_95d88  hv_9) ⟨tg_457, tg_102, ok_J13_bitCount_95d88, Nat.le_of_ble_eq_true rfl, Nat.le_of_ble_eq_true rfl⟩ tg_455 tg_456 rfl (Nat.le_of_ble_eq_true rfl) dX6_lay_38 ⟨Nat.le_refl 0, Nat.le_refl 0⟩ ?_
    obtain ⟨hg_11, h⟩ := gd_ex h
    obtain ⟨M_12, eM_12, h⟩ := ltv_ex h
    refine G.sI (j := (ix x2)) C (sc_35 hE) hg_11 rfl dX6_lay_41 eM_12 ?_
    refine G.aload_n C 1 dX6_lay_42 rfl rfl ?_
    refine G.getR (k := 3) C k_X6 (sc_34 hE) rfl (by decide) tg_299 dX6_lay_43 ?_
    refine G.iload_n C 3 dX6_lay_46 rfl rfl ?_
    refine G.lload_n C 0 dX6_lay_47 rfl rfl ?_
    obtain ⟨v_14, hv_13, h⟩ := bd_ex h
    refine G.callS (rest := [.int x2, .ref (eA E 36)]) C (s_X4_beside  hv_13) ⟨tg_463, tg_101, ok_X4_beside, Nat.le_of_ble_eq_true rfl, Nat.le_of_ble_eq_true rfl⟩ tg_461 tg_462 rfl (Nat.le_of_ble_eq_true rfl) dX6_lay_48 ⟨Nat.le_refl 0, Nat.le_refl 0⟩ ?_
    obtain ⟨v_16, hv_15, h⟩ := bd_ex h
    refine G.callS (rest := [.int x2, .ref (eA E 36)]) C (s_J13_bitCount_95d88  hv_15) ⟨tg_457, tg_102, ok_J13_bitCount_95d88, Nat.le_of_ble_eq_true rfl, Nat.le_of_ble_eq_true rfl⟩ tg_455 tg_456 rfl (Nat.le_of_ble_eq_true rfl) dX6_lay_51 ⟨Nat.le_refl 0, Nat.le_refl 0⟩ ?_
    obtain ⟨hg_17, h⟩ := gd_ex h
    obtain ⟨M_18, eM_18, h⟩ := ltv_ex h
    refine G.sI (j := (ix x2)) C (sc_36 hE) hg_17 rfl dX6_lay_54 eM_18 ?_
    refine G.aload_n C 1 dX6_lay_55 rfl rfl ?_
    refine G.getR (k := 4) C k_X6 (sc_34 hE) rfl (by decide) tg_300 dX6_lay_56 ?_
    refine G.iload_n C 3 dX6_lay_59 rfl rfl ?_
    refine G.lload_n C 0 dX6_lay_60 rfl rfl ?_
    obtain ⟨v_20, hv_19, h⟩ := bd_ex h
    refine G.callS (rest := [.int x2, .ref (eA E 37)]) C (s_X4_broad  hv_19) ⟨tg_472, tg_101, ok_X4_broad, Nat.le_of_ble_eq_true rfl, Nat.le_of_ble_eq_true rfl⟩ tg_470 tg_471 rfl (Nat.le_of_ble_eq_true rfl) dX6_lay_61 ⟨Nat.le_refl 0, Nat.le_refl 0⟩ ?_
    obtain ⟨hg_21, h⟩ := gd_ex h
    obtain ⟨M_22, eM_22, h⟩ := ltv_ex h
    refine G.sI (j := (ix x2)) C (sc_37 hE) hg_21 rfl dX6_lay_64 eM_22 ?_
    obtain ⟨x2_23, ex2_23, h⟩ := ltv_ex h
    refine G.iinc (L' := [(2, .int x2_23), (3, .long v_8), (0, .ref (eA E 34)), (1, .ref (eA E 11))]) C 3 dX6_lay_65 rfl (ex2_23.trans rfl) (by decide) rfl ?_
    refine G.goto (tgt := 18) C dX6_lay_68 (by decide) ?_
    exact G.sub [2, 3, 0] rfl (hk_18 _ _  h)
def b_X6_lay_34_11_18 : Nat → Int32 → Mm → Option Mm
  | 0, _, _ => none
  | n + 1, x2, M => bb_X6_lay_34_11_18 (b_X6_lay_34_11_18 n) x2 M
set_option maxHeartbeats 4000000 in
theorem g_X6_lay_34_11_18  {n : Nat} {x2 : Int32} {M : Mm} {M' : Mm} (hE : Has shC (eH E)) (C : Cx RX6 cX6_lay 5 p (rmD 3) s m args meth c E) (hr : meth.sig.returnType = none) (h : b_X6_lay_34_11_18 n x2 M = some M') : G p l e (rmD 3) s m args below meth c E 5 0 0 (QR below args s E 0 0 none M') 18 [(0, .ref (eA E 34)), (1, .ref (eA E 11)), (2, .int x2)] [] M := by
  induction n generalizing x2 M with
  | zero => cases h
  | succ n ih => exact gb_X6_lay_34_11_18 hE C hr (fun _ _ => ih)  h
def bb_X6_lay_34_11_0  (M : Mm) : Option Mm := ltv (wI M 34 0 (M.1 11 7)) fun M_1 => ltv (wI M_1 34 1 (M_1.1 11 8)) fun M_2 => b_X6_lay_34_11_18 FU (0 : Int32) M_2
set_option maxHeartbeats 4000000 in
set_option maxRecDepth 100000 in
theorem gb_X6_lay_34_11_0   {M : Mm} {M' : Mm} (hE : Has shC (eH E)) (C : Cx RX6 cX6_lay 5 p (rmD 3) s m args meth c E) (hr : meth.sig.returnType = none) (h : bb_X6_lay_34_11_0 M = some M') : G p l e (rmD 3) s m args below meth c E 5 0 0 (QR below args s E 0 0 none M') 0 [(0, .ref (eA E 34)), (1, .ref (eA E 11))] [] M := by
  unfold bb_X6_lay_34_11_0 at h
  refine G.aload_n C 0 dX6_lay_0 rfl rfl ?_
  refine G.aload_n C 1 dX6_lay_1 rfl rfl ?_
  refine G.getIN (k := 7) C k_X7 (sc_11 hE) rfl (by decide) tw_158 dX6_lay_2 ?_
  obtain ⟨M_1, eM_1, h⟩ := ltv_ex h
  refine G.putI (k := 0) C k_X6 (sc_34 hE) rfl (by decide) tg_296 rfl rfl dX6_lay_5 eM_1 ?_
  refine G.aload_n C 0 dX6_lay_8 rfl rfl ?_
  refine G.aload_n C 1 dX6_lay_9 rfl rfl ?_
  refine G.getIN (k := 8) C k_X7 (sc_11 hE) rfl (by decide) tw_163 dX6_lay_10 ?_
  obtain ⟨M_2, eM_2, h⟩ := ltv_ex h
  refine G.putI (k := 1) C k_X6 (sc_34 hE) rfl (by decide) tg_297 rfl rfl dX6_lay_13 eM_2 ?_
  refine G.iconst (v := (0 : Int32)) C dX6_lay_16 (by decide) ?_
  refine G.istore_n (L' := [(2, .int (0 : Int32)), (0, .ref (eA E 34)), (1, .ref (eA E 11))]) C dX6_lay_17 rfl rfl (by decide) rfl ?_
  exact G.sub [1, 2, 0] rfl (g_X6_lay_34_11_18 hE C hr  h)
def f_X6_lay_34_11  (M : Mm) : Option Mm := bb_X6_lay_34_11_0 M
theorem s_X6_lay_34_11 {l : Launch} {E : Ev}  {M : Mm} {M' : Mm} (hE : Has shC (eH E)) (h : f_X6_lay_34_11 M = some M') : MetA l yX6_lay cX6_lay 5 none 3 E [.ref (eA E 34), .ref (eA E 11)] M none M' := by
  refine MetA.of (by decide +kernel) (Nat.le_of_ble_eq_true rfl) ?_
  intro p e s m below meth c C hr hnm
  exact G.sub [0, 1] rfl (gb_X6_lay_34_11_0 hE C hr  h)
def bb_X6_blackOf_34_0 (x1 : Int32) (x2 : Int32) (M : Mm) : Option Int32 := if x1 < 0 then (some (0 : Int32)) else (if (10 : Int32) ≤ x1 then (some (0 : Int32)) else (gd (inb x1 10) (gd (inb x1 10) (some (((16 : Int32) * (M.1 35 (ix x1))) + (x2 * (M.1 36 (ix x1))))))))
set_option maxHeartbeats 4000000 in
set_option maxRecDepth 100000 in
theorem gb_X6_blackOf_34_0  {x1 : Int32} {x2 : Int32} {M : Mm} {v : Int32} (hE : Has shC (eH E)) (C : Cx RX6 cX6_blackOf 3 p (rmD 1) s m args meth c E) (hr : meth.sig.returnType = (some .int)) (h : bb_X6_blackOf_34_0 x1 x2 M = some v) : G p l e (rmD 1) s m args below meth c E 3 0 0 (QR below args s E 0 0 (some (.int v)) M) 0 [(0, .ref (eA E 34)), (1, .int x1), (2, .int x2)] [] M := by
  unfold bb_X6_blackOf_34_0 at h
  refine G.iload_n C 1 dX6_blackOf_0 rfl rfl ?_
  refine G.if_lt (tgt := 31) C dX6_blackOf_1 (by decide) (fun hc => ?_) (fun hc => ?_)
  · have h := it_t h hc
    refine G.iconst (v := (0 : Int32)) C dX6_blackOf_31 (by decide) ?_
    cases h
    exact G.iret C hr dX6_blackOf_32
  · have h := it_f h hc
    refine G.iload_n C 1 dX6_blackOf_4 rfl rfl ?_
    refine G.bipush (v := (10 : Int32)) C dX6_blackOf_5 (by decide) ?_
    refine G.icmp_ge (tgt := 31) C dX6_blackOf_7 (by decide) (fun hc => ?_) (fun hc => ?_)
    · have h := it_t h hc
      refine G.iconst (v := (0 : Int32)) C dX6_blackOf_31 (by decide) ?_
      cases h
      exact G.iret C hr dX6_blackOf_32
    · have h := it_f h hc
      refine G.bipush (v := (16 : Int32)) C dX6_blackOf_10 (by decide) ?_
      refine G.aload_n C 0 dX6_blackOf_12 rfl rfl ?_
      refine G.getR (k := 2) C k_X6 (sc_34 hE) rfl (by decide) tg_298 dX6_blackOf_13 ?_
      refine G.iload_n C 1 dX6_blackOf_16 rfl rfl ?_
      obtain ⟨hg_1, h⟩ := gd_ex h
      refine G.aI (j := ix x1) C (sc_35 hE) hg_1 rfl dX6_blackOf_17 ?_
      refine G.imul C dX6_blackOf_18 ?_
      refine G.iload_n C 2 dX6_blackOf_19 rfl rfl ?_
      refine G.aload_n C 0 dX6_blackOf_20 rfl rfl ?_
      refine G.getR (k := 3) C k_X6 (sc_34 hE) rfl (by decide) tg_299 dX6_blackOf_21 ?_
      refine G.iload_n C 1 dX6_blackOf_24 rfl rfl ?_
      obtain ⟨hg_2, h⟩ := gd_ex h
      refine G.aI (j := ix x1) C (sc_36 hE) hg_2 rfl dX6_blackOf_25 ?_
      refine G.imul C dX6_blackOf_26 ?_
      refine G.iadd C dX6_blackOf_27 ?_
      refine G.goto (tgt := 32) C dX6_blackOf_28 (by decide) ?_
      cases h
      exact G.iret C hr dX6_blackOf_32
def f_X6_blackOf_34 (x1 : Int32) (x2 : Int32) (M : Mm) : Option Int32 := bb_X6_blackOf_34_0 x1 x2 M
theorem s_X6_blackOf_34 {l : Launch} {E : Ev} {x1 : Int32} {x2 : Int32} {M : Mm} {v : Int32} (hE : Has shC (eH E)) (h : f_X6_blackOf_34 x1 x2 M = some v) : MetA l yX6_blackOf cX6_blackOf 3 (some .int) 1 E [.ref (eA E 34), .int x1, .int x2] M (some (.int v)) M := by
  refine MetA.of (by decide +kernel) (Nat.le_of_ble_eq_true rfl) ?_
  intro p e s m below meth c C hr hnm
  exact G.sub [0, 1, 2] rfl (gb_X6_blackOf_34_0 hE C hr  h)
def bb_X6_blackOfWord_34_5 (k_5 : Int32 → Int32 → Int32 → Int32 → Mm → Option Int32) (x1 : Int32) (x2 : Int32) (x3 : Int32) (x4 : Int32) (M : Mm) : Option Int32 := if (M.1 34 0) ≤ x4 then (some x3) else (gd (inb (((10 : Int32) * x1) + x4) 60) (bd (f_X6_blackOf_34 x4 x2 M) fun v_3 => ltv (x3 + ((M.1 43 (ix (((10 : Int32) * x1) + x4))) * v_3)) fun x3_4 => ltv (x4 + (1 : Int32)) fun x4_5 => k_5 x1 x2 x3_4 x4_5 M))
set_option maxHeartbeats 4000000 in
set_option maxRecDepth 100000 in
theorem gb_X6_blackOfWord_34_5  {k_5 : Int32 → Int32 → Int32 → Int32 → Mm → Option Int32} {x1 : Int32} {x2 : Int32} {x3 : Int32} {x4 : Int32} {M : Mm} {v : Int32} (hE : Has shC (eH E)) (C : Cx RX6 cX6_blackOfWord 5 p (rmD 2) s m args meth c E) (hr : meth.sig.returnType = (some .int)) (hk_5 : ∀ (x1 : Int32) (x2 : Int32) (x3 : Int32) (x4 : Int32) (M : Mm), k_5 x1 x2 x3 x4 M = some v → G p l e (rmD 2) s m args below meth c E 5 0 0 (QR below args s E 0 0 (some (.int v)) M) 5 [(0, .ref (eA E 34)), (1, .int x1), (2, .int x2), (3, .int x3), (4, .int x4)] [] M) (h : bb_X6_blackOfWord_34_5 k_5 x1 x2 x3 x4 M = some v) : G p l e (rmD 2) s m args below meth c E 5 0 0 (QR below args s E 0 0 (some (.int v)) M) 5 [(0, .ref (eA E 34)), (1, .int x1), (2, .int x2), (3, .int x3), (4, .int x4)] [] M := by
  unfold bb_X6_blackOfWord_34_5 at h
  refine G.iload C 4 dX6_blackOfWord_5 rfl ?_
  refine G.aload_n C 0 dX6_blackOfWord_7 rfl rfl ?_
  refine G.getI (k := 0) C k_X6 (sc_34 hE) rfl (by decide) tg_296 dX6_blackOfWord_8 ?_
  refine G.icmp_ge (tgt := 43) C dX6_blackOfWord_11 (by decide) (fun hc => ?_) (fun hc => ?_)
  · have h := it_t h hc
    refine G.iload_n C 3 dX6_blackOfWord_43 rfl rfl ?_
    cases h
    exact G.iret C hr dX6_blackOfWord_44
  · have h := it_f h hc
    refine G.iload_n C 3 dX6_blackOfWord_14 rfl rfl ?_
    refine G.aload_n C 0 dX6_blackOfWord_15 rfl rfl ?_
    refine G.getR (k := 10) C k_X6 (sc_34 hE) rfl (by decide) tg_306 dX6_blackOfWord_16 ?_
    refine G.bipush (v := (10 : Int32)) C dX6_blackOfWord_19 (by decide) ?_
    refine G.iload_n C 1 dX6_blackOfWord_21 rfl rfl ?_
    refine G.imul C dX6_blackOfWord_22 ?_
    refine G.iload C 4 dX6_blackOfWord_23 rfl ?_
    refine G.iadd C dX6_blackOfWord_25 ?_
    obtain ⟨hg_1, h⟩ := gd_ex h
    refine G.aI (j := ix (((10 : Int32) * x1) + x4)) C (sc_43 hE) hg_1 rfl dX6_blackOfWord_26 ?_
    refine G.aload_n C 0 dX6_blackOfWord_27 rfl rfl ?_
    refine G.iload C 4 dX6_blackOfWord_28 rfl ?_
    refine G.iload_n C 2 dX6_blackOfWord_30 rfl rfl ?_
    obtain ⟨v_3, hv_2, h⟩ := bd_ex h
    refine G.callV (rest := [.int (M.1 43 (ix (((10 : Int32) * x1) + x4))), .int x3]) C (s_X6_blackOf_34 hE  hv_2) ⟨tg_1196, tg_96, ok_X6_blackOf, Nat.le_of_ble_eq_true rfl, Nat.le_of_ble_eq_true rfl⟩ tg_1214 tg_1194 tg_1195 (sc_34 hE) rfl rfl (Nat.le_of_ble_eq_true rfl) dX6_blackOfWord_31 ⟨Nat.le_refl 0, Nat.le_refl 0⟩ ?_
    refine G.imul C dX6_blackOfWord_34 ?_
    refine G.iadd C dX6_blackOfWord_35 ?_
    obtain ⟨x3_4, ex3_4, h⟩ := ltv_ex h
    refine G.istore_n (L' := [(3, .int x3_4), (0, .ref (eA E 34)), (1, .int x1), (2, .int x2), (4, .int x4)]) C dX6_blackOfWord_36 rfl ex3_4 (by decide) rfl ?_
    obtain ⟨x4_5, ex4_5, h⟩ := ltv_ex h
    refine G.iinc (L' := [(4, .int x4_5), (3, .int x3_4), (0, .ref (eA E 34)), (1, .int x1), (2, .int x2)]) C 4 dX6_blackOfWord_37 rfl (ex4_5.trans rfl) (by decide) rfl ?_
    refine G.goto (tgt := 5) C dX6_blackOfWord_40 (by decide) ?_
    exact G.sub [2, 3, 4, 1, 0] rfl (hk_5 _ _ _ _ _  h)
def b_X6_blackOfWord_34_5 : Nat → Int32 → Int32 → Int32 → Int32 → Mm → Option Int32
  | 0, _, _, _, _, _ => none
  | n + 1, x1, x2, x3, x4, M => bb_X6_blackOfWord_34_5 (b_X6_blackOfWord_34_5 n) x1 x2 x3 x4 M
set_option maxHeartbeats 4000000 in
theorem g_X6_blackOfWord_34_5  {n : Nat} {x1 : Int32} {x2 : Int32} {x3 : Int32} {x4 : Int32} {M : Mm} {v : Int32} (hE : Has shC (eH E)) (C : Cx RX6 cX6_blackOfWord 5 p (rmD 2) s m args meth c E) (hr : meth.sig.returnType = (some .int)) (h : b_X6_blackOfWord_34_5 n x1 x2 x3 x4 M = some v) : G p l e (rmD 2) s m args below meth c E 5 0 0 (QR below args s E 0 0 (some (.int v)) M) 5 [(0, .ref (eA E 34)), (1, .int x1), (2, .int x2), (3, .int x3), (4, .int x4)] [] M := by
  induction n generalizing x1 x2 x3 x4 M with
  | zero => cases h
  | succ n ih => exact gb_X6_blackOfWord_34_5 hE C hr (fun _ _ _ _ _ => ih)  h
def bb_X6_blackOfWord_34_0 (x1 : Int32) (x2 : Int32) (M : Mm) : Option Int32 := b_X6_blackOfWord_34_5 FU x1 x2 (0 : Int32) (0 : Int32) M
set_option maxHeartbeats 4000000 in
set_option maxRecDepth 100000 in
theorem gb_X6_blackOfWord_34_0  {x1 : Int32} {x2 : Int32} {M : Mm} {v : Int32} (hE : Has shC (eH E)) (C : Cx RX6 cX6_blackOfWord 5 p (rmD 2) s m args meth c E) (hr : meth.sig.returnType = (some .int)) (h : bb_X6_blackOfWord_34_0 x1 x2 M = some v) : G p l e (rmD 2) s m args below meth c E 5 0 0 (QR below args s E 0 0 (some (.int v)) M) 0 [(0, .ref (eA E 34)), (1, .int x1), (2, .int x2)] [] M := by
  unfold bb_X6_blackOfWord_34_0 at h
  refine G.iconst (v := (0 : Int32)) C dX6_blackOfWord_0 (by decide) ?_
  refine G.istore_n (L' := [(3, .int (0 : Int32)), (0, .ref (eA E 34)), (1, .int x1), (2, .int x2)]) C dX6_blackOfWord_1 rfl rfl (by decide) rfl ?_
  refine G.iconst (v := (0 : Int32)) C dX6_blackOfWord_2 (by decide) ?_
  refine G.istore (L' := [(4, .int (0 : Int32)), (3, .int (0 : Int32)), (0, .ref (eA E 34)), (1, .int x1), (2, .int x2)]) C dX6_blackOfWord_3 rfl (by decide) rfl ?_
  exact G.sub [2, 3, 4, 1, 0] rfl (g_X6_blackOfWord_34_5 hE C hr  h)
def f_X6_blackOfWord_34 (x1 : Int32) (x2 : Int32) (M : Mm) : Option Int32 := bb_X6_blackOfWord_34_0 x1 x2 M
theorem s_X6_blackOfWord_34 {l : Launch} {E : Ev} {x1 : Int32} {x2 : Int32} {M : Mm} {v : Int32} (hE : Has shC (eH E)) (h : f_X6_blackOfWord_34 x1 x2 M = some v) : MetA l yX6_blackOfWord cX6_blackOfWord 5 (some .int) 2 E [.ref (eA E 34), .int x1, .int x2] M (some (.int v)) M := by
  refine MetA.of (by decide +kernel) (Nat.le_of_ble_eq_true rfl) ?_
  intro p e s m below meth c C hr hnm
  exact G.sub [0, 1, 2] rfl (gb_X6_blackOfWord_34_0 hE C hr  h)
def bb_X6_spaceOfWord_34_5 (k_5 : Int32 → Int32 → Int32 → Int32 → Mm → Option Int32) (x1 : Int32) (x2 : Int32) (x3 : Int32) (x4 : Int32) (M : Mm) : Option Int32 := if (M.1 34 0) ≤ x4 then (some x3) else (gd (inb (((10 : Int32) * x1) + x4) 60) (gd (inb x4 10) (gd (inb x4 10) (gd (decide (¬ (powF (ix x4)) = 0)) (ltv (x3 + ((M.1 43 (ix (((10 : Int32) * x1) + x4))) * ((M.1 37 (ix x4)) + (rmI (x2 / (powF (ix x4))) (5 : Int32))))) fun x3_5 => ltv (x4 + (1 : Int32)) fun x4_6 => k_5 x1 x2 x3_5 x4_6 M)))))
set_option maxHeartbeats 4000000 in
set_option maxRecDepth 100000 in
theorem gb_X6_spaceOfWord_34_5  {k_5 : Int32 → Int32 → Int32 → Int32 → Mm → Option Int32} {x1 : Int32} {x2 : Int32} {x3 : Int32} {x4 : Int32} {M : Mm} {v : Int32} (hE : Has shC (eH E)) (C : Cx RX6 cX6_spaceOfWord 5 p (rmD 1) s m args meth c E) (hr : meth.sig.returnType = (some .int)) (hk_5 : ∀ (x1 : Int32) (x2 : Int32) (x3 : Int32) (x4 : Int32) (M : Mm), k_5 x1 x2 x3 x4 M = some v → G p l e (rmD 1) s m args below meth c E 5 0 0 (QR below args s E 0 0 (some (.int v)) M) 5 [(0, .ref (eA E 34)), (1, .int x1), (2, .int x2), (3, .int x3), (4, .int x4)] [] M) (h : bb_X6_spaceOfWord_34_5 k_5 x1 x2 x3 x4 M = some v) : G p l e (rmD 1) s m args below meth c E 5 0 0 (QR below args s E 0 0 (some (.int v)) M) 5 [(0, .ref (eA E 34)), (1, .int x1), (2, .int x2), (3, .int x3), (4, .int x4)] [] M := by
  unfold bb_X6_spaceOfWord_34_5 at h
  refine G.iload C 4 dX6_spaceOfWord_5 rfl ?_
  refine G.aload_n C 0 dX6_spaceOfWord_7 rfl rfl ?_
  refine G.getI (k := 0) C k_X6 (sc_34 hE) rfl (by decide) tg_296 dX6_spaceOfWord_8 ?_
  refine G.icmp_ge (tgt := 54) C dX6_spaceOfWord_11 (by decide) (fun hc => ?_) (fun hc => ?_)
  · have h := it_t h hc
    refine G.iload_n C 3 dX6_spaceOfWord_54 rfl rfl ?_
    cases h
    exact G.iret C hr dX6_spaceOfWord_55
  · have h := it_f h hc
    refine G.iload_n C 3 dX6_spaceOfWord_14 rfl rfl ?_
    refine G.aload_n C 0 dX6_spaceOfWord_15 rfl rfl ?_
    refine G.getR (k := 10) C k_X6 (sc_34 hE) rfl (by decide) tg_306 dX6_spaceOfWord_16 ?_
    refine G.bipush (v := (10 : Int32)) C dX6_spaceOfWord_19 (by decide) ?_
    refine G.iload_n C 1 dX6_spaceOfWord_21 rfl rfl ?_
    refine G.imul C dX6_spaceOfWord_22 ?_
    refine G.iload C 4 dX6_spaceOfWord_23 rfl ?_
    refine G.iadd C dX6_spaceOfWord_25 ?_
    obtain ⟨hg_1, h⟩ := gd_ex h
    refine G.aI (j := ix (((10 : Int32) * x1) + x4)) C (sc_43 hE) hg_1 rfl dX6_spaceOfWord_26 ?_
    refine G.aload_n C 0 dX6_spaceOfWord_27 rfl rfl ?_
    refine G.getR (k := 4) C k_X6 (sc_34 hE) rfl (by decide) tg_300 dX6_spaceOfWord_28 ?_
    refine G.iload C 4 dX6_spaceOfWord_31 rfl ?_
    obtain ⟨hg_2, h⟩ := gd_ex h
    refine G.aI (j := ix x4) C (sc_37 hE) hg_2 rfl dX6_spaceOfWord_33 ?_
    refine G.iload_n C 2 dX6_spaceOfWord_34 rfl rfl ?_
    refine G.pow C tg_1219 dX6_spaceOfWord_35 ?_
    refine G.iload C 4 dX6_spaceOfWord_38 rfl ?_
    obtain ⟨hg_3, h⟩ := gd_ex h
    refine G.powld C hg_3 dX6_spaceOfWord_40 ?_
    obtain ⟨hn_4, h⟩ := gd_ex h
    refine G.idiv C dX6_spaceOfWord_41 (of_decide_eq_true hn_4) ?_
    refine G.iconst (v := (5 : Int32)) C dX6_spaceOfWord_42 (by decide) ?_
    refine G.irm C dX6_spaceOfWord_43 (by decide) ?_
    refine G.iadd C dX6_spaceOfWord_44 ?_
    refine G.imul C dX6_spaceOfWord_45 ?_
    refine G.iadd C dX6_spaceOfWord_46 ?_
    obtain ⟨x3_5, ex3_5, h⟩ := ltv_ex h
    refine G.istore_n (L' := [(3, .int x3_5), (0, .ref (eA E 34)), (1, .int x1), (2, .int x2), (4, .int x4)]) C dX6_spaceOfWord_47 rfl ex3_5 (by decide) rfl ?_
    obtain ⟨x4_6, ex4_6, h⟩ := ltv_ex h
    refine G.iinc (L' := [(4, .int x4_6), (3, .int x3_5), (0, .ref (eA E 34)), (1, .int x1), (2, .int x2)]) C 4 dX6_spaceOfWord_48 rfl (ex4_6.trans rfl) (by decide) rfl ?_
    refine G.goto (tgt := 5) C dX6_spaceOfWord_51 (by decide) ?_
    exact G.sub [2, 3, 4, 1, 0] rfl (hk_5 _ _ _ _ _  h)
def b_X6_spaceOfWord_34_5 : Nat → Int32 → Int32 → Int32 → Int32 → Mm → Option Int32
  | 0, _, _, _, _, _ => none
  | n + 1, x1, x2, x3, x4, M => bb_X6_spaceOfWord_34_5 (b_X6_spaceOfWord_34_5 n) x1 x2 x3 x4 M
set_option maxHeartbeats 4000000 in
theorem g_X6_spaceOfWord_34_5  {n : Nat} {x1 : Int32} {x2 : Int32} {x3 : Int32} {x4 : Int32} {M : Mm} {v : Int32} (hE : Has shC (eH E)) (C : Cx RX6 cX6_spaceOfWord 5 p (rmD 1) s m args meth c E) (hr : meth.sig.returnType = (some .int)) (h : b_X6_spaceOfWord_34_5 n x1 x2 x3 x4 M = some v) : G p l e (rmD 1) s m args below meth c E 5 0 0 (QR below args s E 0 0 (some (.int v)) M) 5 [(0, .ref (eA E 34)), (1, .int x1), (2, .int x2), (3, .int x3), (4, .int x4)] [] M := by
  induction n generalizing x1 x2 x3 x4 M with
  | zero => cases h
  | succ n ih => exact gb_X6_spaceOfWord_34_5 hE C hr (fun _ _ _ _ _ => ih)  h
def bb_X6_spaceOfWord_34_0 (x1 : Int32) (x2 : Int32) (M : Mm) : Option Int32 := b_X6_spaceOfWord_34_5 FU x1 x2 (0 : Int32) (0 : Int32) M
set_option maxHeartbeats 4000000 in
set_option maxRecDepth 100000 in
theorem gb_X6_spaceOfWord_34_0  {x1 : Int32} {x2 : Int32} {M : Mm} {v : Int32} (hE : Has shC (eH E)) (C : Cx RX6 cX6_spaceOfWord 5 p (rmD 1) s m args meth c E) (hr : meth.sig.returnType = (some .int)) (h : bb_X6_spaceOfWord_34_0 x1 x2 M = some v) : G p l e (rmD 1) s m args below meth c E 5 0 0 (QR below args s E 0 0 (some (.int v)) M) 0 [(0, .ref (eA E 34)), (1, .int x1), (2, .int x2)] [] M := by
  unfold bb_X6_spaceOfWord_34_0 at h
  refine G.iconst (v := (0 : Int32)) C dX6_spaceOfWord_0 (by decide) ?_
  refine G.istore_n (L' := [(3, .int (0 : Int32)), (0, .ref (eA E 34)), (1, .int x1), (2, .int x2)]) C dX6_spaceOfWord_1 rfl rfl (by decide) rfl ?_
  refine G.iconst (v := (0 : Int32)) C dX6_spaceOfWord_2 (by decide) ?_
  refine G.istore (L' := [(4, .int (0 : Int32)), (3, .int (0 : Int32)), (0, .ref (eA E 34)), (1, .int x1), (2, .int x2)]) C dX6_spaceOfWord_3 rfl (by decide) rfl ?_
  exact G.sub [2, 3, 4, 1, 0] rfl (g_X6_spaceOfWord_34_5 hE C hr  h)
def f_X6_spaceOfWord_34 (x1 : Int32) (x2 : Int32) (M : Mm) : Option Int32 := bb_X6_spaceOfWord_34_0 x1 x2 M
theorem s_X6_spaceOfWord_34 {l : Launch} {E : Ev} {x1 : Int32} {x2 : Int32} {M : Mm} {v : Int32} (hE : Has shC (eH E)) (h : f_X6_spaceOfWord_34 x1 x2 M = some v) : MetA l yX6_spaceOfWord cX6_spaceOfWord 5 (some .int) 1 E [.ref (eA E 34), .int x1, .int x2] M (some (.int v)) M := by
  refine MetA.of (by decide +kernel) (Nat.le_of_ble_eq_true rfl) ?_
  intro p e s m below meth c C hr hnm
  exact G.sub [0, 1, 2] rfl (gb_X6_spaceOfWord_34_0 hE C hr  h)
def bb_X6_colourBy_0 (x0 : Int32) (x1 : Int32) : Option Int32 := if 0 < x1 then (gd (decide (¬ ((16 : Int32) * x1) = 0)) (some (((1000 : Int32) * x0) / ((16 : Int32) * x1)))) else (some (0 : Int32))
set_option maxHeartbeats 4000000 in
set_option maxRecDepth 100000 in
theorem gb_X6_colourBy_0 {M : Mm}  {x0 : Int32} {x1 : Int32} {v : Int32} (C : Cx RX6 cX6_colourBy 2 p (rmD 1) s m args meth c E) (hr : meth.sig.returnType = (some .int)) (h : bb_X6_colourBy_0 x0 x1 = some v) : G p l e (rmD 1) s m args below meth c E 2 0 0 (QR below args s E 0 0 (some (.int v)) M) 0 [(0, .int x0), (1, .int x1)] [] M := by
  unfold bb_X6_colourBy_0 at h
  refine G.iload_n C 1 dX6_colourBy_0 rfl rfl ?_
  refine G.if_gt (tgt := 8) C dX6_colourBy_1 (by decide) (fun hc => ?_) (fun hc => ?_)
  · have h := it_t h hc
    refine G.sipush (v := (1000 : Int32)) C dX6_colourBy_8 (by decide) ?_
    refine G.iload_n C 0 dX6_colourBy_11 rfl rfl ?_
    refine G.imul C dX6_colourBy_12 ?_
    refine G.bipush (v := (16 : Int32)) C dX6_colourBy_13 (by decide) ?_
    refine G.iload_n C 1 dX6_colourBy_15 rfl rfl ?_
    refine G.imul C dX6_colourBy_16 ?_
    obtain ⟨hn_1, h⟩ := gd_ex h
    refine G.idiv C dX6_colourBy_17 (of_decide_eq_true hn_1) ?_
    cases h
    exact G.iret C hr dX6_colourBy_18
  · have h := it_f h hc
    refine G.iconst (v := (0 : Int32)) C dX6_colourBy_4 (by decide) ?_
    refine G.goto (tgt := 18) C dX6_colourBy_5 (by decide) ?_
    cases h
    exact G.iret C hr dX6_colourBy_18
def f_X6_colourBy (x0 : Int32) (x1 : Int32) : Option Int32 := bb_X6_colourBy_0 x0 x1
theorem s_X6_colourBy {l : Launch} {E : Ev} {x0 : Int32} {x1 : Int32} {M : Mm} {v : Int32} (h : f_X6_colourBy x0 x1 = some v) : MetA l yX6_colourBy cX6_colourBy 2 (some .int) 1 E [.int x0, .int x1] M (some (.int v)) M := by
  refine MetA.of (by decide +kernel) (Nat.le_of_ble_eq_true rfl) ?_
  intro p e s m below meth c C hr hnm
  exact G.sub [0, 1] rfl (gb_X6_colourBy_0 C hr  h)
def bb_X6_colourOf_34_0 (x1 : Int32) (x2 : Int32) (x3 : Int32) (M : Mm) : Option Int32 := bd (f_X6_blackOfWord_34 x1 x2 M) fun v_2 => bd (f_X6_spaceOfWord_34 x1 x3 M) fun v_4 => bd (f_X6_colourBy v_2 v_4) fun v_6 => some v_6
set_option maxHeartbeats 4000000 in
set_option maxRecDepth 100000 in
theorem gb_X6_colourOf_34_0  {x1 : Int32} {x2 : Int32} {x3 : Int32} {M : Mm} {v : Int32} (hE : Has shC (eH E)) (C : Cx RX6 cX6_colourOf 4 p (rmD 3) s m args meth c E) (hr : meth.sig.returnType = (some .int)) (h : bb_X6_colourOf_34_0 x1 x2 x3 M = some v) : G p l e (rmD 3) s m args below meth c E 4 0 0 (QR below args s E 0 0 (some (.int v)) M) 0 [(0, .ref (eA E 34)), (1, .int x1), (2, .int x2), (3, .int x3)] [] M := by
  unfold bb_X6_colourOf_34_0 at h
  refine G.aload_n C 0 dX6_colourOf_0 rfl rfl ?_
  refine G.iload_n C 1 dX6_colourOf_1 rfl rfl ?_
  refine G.iload_n C 2 dX6_colourOf_2 rfl rfl ?_
  obtain ⟨v_2, hv_1, h⟩ := bd_ex h
  refine G.callV (rest := []) C (s_X6_blackOfWord_34 hE  hv_1) ⟨tg_1213, tg_96, ok_X6_blackOfWord, Nat.le_of_ble_eq_true rfl, Nat.le_of_ble_eq_true rfl⟩ tg_1210 tg_1212 tg_32 (sc_34 hE) rfl rfl (Nat.le_of_ble_eq_true rfl) dX6_colourOf_3 ⟨Nat.le_refl 0, Nat.le_refl 0⟩ ?_
  refine G.aload_n C 0 dX6_colourOf_6 rfl rfl ?_
  refine G.iload_n C 1 dX6_colourOf_7 rfl rfl ?_
  refine G.iload_n C 3 dX6_colourOf_8 rfl rfl ?_
  obtain ⟨v_4, hv_3, h⟩ := bd_ex h
  refine G.callV (rest := [.int v_2]) C (s_X6_spaceOfWord_34 hE  hv_3) ⟨tg_1218, tg_96, ok_X6_spaceOfWord, Nat.le_of_ble_eq_true rfl, Nat.le_of_ble_eq_true rfl⟩ tg_1215 tg_1217 tg_33 (sc_34 hE) rfl rfl (Nat.le_of_ble_eq_true rfl) dX6_colourOf_9 ⟨Nat.le_refl 0, Nat.le_refl 0⟩ ?_
  obtain ⟨v_6, hv_5, h⟩ := bd_ex h
  refine G.callS (rest := []) C (s_X6_colourBy  hv_5) ⟨tg_1223, tg_96, ok_X6_colourBy, Nat.le_of_ble_eq_true rfl, Nat.le_of_ble_eq_true rfl⟩ tg_1221 tg_1222 rfl (Nat.le_of_ble_eq_true rfl) dX6_colourOf_12 ⟨Nat.le_refl 0, Nat.le_refl 0⟩ ?_
  cases h
  exact G.iret C hr dX6_colourOf_15
def f_X6_colourOf_34 (x1 : Int32) (x2 : Int32) (x3 : Int32) (M : Mm) : Option Int32 := bb_X6_colourOf_34_0 x1 x2 x3 M
theorem s_X6_colourOf_34 {l : Launch} {E : Ev} {x1 : Int32} {x2 : Int32} {x3 : Int32} {M : Mm} {v : Int32} (hE : Has shC (eH E)) (h : f_X6_colourOf_34 x1 x2 x3 M = some v) : MetA l yX6_colourOf cX6_colourOf 4 (some .int) 3 E [.ref (eA E 34), .int x1, .int x2, .int x3] M (some (.int v)) M := by
  refine MetA.of (by decide +kernel) (Nat.le_of_ble_eq_true rfl) ?_
  intro p e s m below meth c C hr hnm
  exact G.sub [0, 1, 2, 3] rfl (gb_X6_colourOf_34_0 hE C hr  h)
def bb_X6_layWords_34_2 (k_2 : Int32 → Int32 → Int32 → Mm → Option Mm) (x1 : Int32) (x2 : Int32) (x3 : Int32) (M : Mm) : Option Mm := if (M.1 34 1) ≤ x3 then (some M) else (bd (f_X6_blackOfWord_34 x3 x1 M) fun v_2 => gd (inb x3 6) (ltv (wI M 40 (ix x3) v_2) fun M_4 => bd (f_X6_spaceOfWord_34 x3 x2 M_4) fun v_6 => gd (inb x3 6) (ltv (wI M_4 41 (ix x3) v_6) fun M_8 => ltv (x3 + (1 : Int32)) fun x3_9 => k_2 x1 x2 x3_9 M_8)))
set_option maxHeartbeats 4000000 in
set_option maxRecDepth 100000 in
theorem gb_X6_layWords_34_2  {k_2 : Int32 → Int32 → Int32 → Mm → Option Mm} {x1 : Int32} {x2 : Int32} {x3 : Int32} {M : Mm} {M' : Mm} (hE : Has shC (eH E)) (C : Cx RX6 cX6_layWords 4 p (rmD 3) s m args meth c E) (hr : meth.sig.returnType = none) (hk_2 : ∀ (x1 : Int32) (x2 : Int32) (x3 : Int32) (M : Mm), k_2 x1 x2 x3 M = some M' → G p l e (rmD 3) s m args below meth c E 4 0 0 (QR below args s E 0 0 none M') 2 [(0, .ref (eA E 34)), (1, .int x1), (2, .int x2), (3, .int x3)] [] M) (h : bb_X6_layWords_34_2 k_2 x1 x2 x3 M = some M') : G p l e (rmD 3) s m args below meth c E 4 0 0 (QR below args s E 0 0 none M') 2 [(0, .ref (eA E 34)), (1, .int x1), (2, .int x2), (3, .int x3)] [] M := by
  unfold bb_X6_layWords_34_2 at h
  refine G.iload_n C 3 dX6_layWords_2 rfl rfl ?_
  refine G.aload_n C 0 dX6_layWords_3 rfl rfl ?_
  refine G.getI (k := 1) C k_X6 (sc_34 hE) rfl (by decide) tg_297 dX6_layWords_4 ?_
  refine G.icmp_ge (tgt := 40) C dX6_layWords_7 (by decide) (fun hc => ?_) (fun hc => ?_)
  · have h := it_t h hc
    cases h
    exact G.vret C hr dX6_layWords_40
  · have h := it_f h hc
    refine G.aload_n C 0 dX6_layWords_10 rfl rfl ?_
    refine G.getR (k := 7) C k_X6 (sc_34 hE) rfl (by decide) tg_303 dX6_layWords_11 ?_
    refine G.iload_n C 3 dX6_layWords_14 rfl rfl ?_
    refine G.aload_n C 0 dX6_layWords_15 rfl rfl ?_
    refine G.iload_n C 3 dX6_layWords_16 rfl rfl ?_
    refine G.iload_n C 1 dX6_layWords_17 rfl rfl ?_
    obtain ⟨v_2, hv_1, h⟩ := bd_ex h
    refine G.callV (rest := [.int x3, .ref (eA E 40)]) C (s_X6_blackOfWord_34 hE  hv_1) ⟨tg_1213, tg_96, ok_X6_blackOfWord, Nat.le_of_ble_eq_true rfl, Nat.le_of_ble_eq_true rfl⟩ tg_1210 tg_1212 tg_32 (sc_34 hE) rfl rfl (Nat.le_of_ble_eq_true rfl) dX6_layWords_18 ⟨Nat.le_refl 0, Nat.le_refl 0⟩ ?_
    obtain ⟨hg_3, h⟩ := gd_ex h
    obtain ⟨M_4, eM_4, h⟩ := ltv_ex h
    refine G.sI (j := (ix x3)) C (sc_40 hE) hg_3 rfl dX6_layWords_21 eM_4 ?_
    refine G.aload_n C 0 dX6_layWords_22 rfl rfl ?_
    refine G.getR (k := 8) C k_X6 (sc_34 hE) rfl (by decide) tg_304 dX6_layWords_23 ?_
    refine G.iload_n C 3 dX6_layWords_26 rfl rfl ?_
    refine G.aload_n C 0 dX6_layWords_27 rfl rfl ?_
    refine G.iload_n C 3 dX6_layWords_28 rfl rfl ?_
    refine G.iload_n C 2 dX6_layWords_29 rfl rfl ?_
    obtain ⟨v_6, hv_5, h⟩ := bd_ex h
    refine G.callV (rest := [.int x3, .ref (eA E 41)]) C (s_X6_spaceOfWord_34 hE  hv_5) ⟨tg_1218, tg_96, ok_X6_spaceOfWord, Nat.le_of_ble_eq_true rfl, Nat.le_of_ble_eq_true rfl⟩ tg_1215 tg_1217 tg_33 (sc_34 hE) rfl rfl (Nat.le_of_ble_eq_true rfl) dX6_layWords_30 ⟨Nat.le_refl 0, Nat.le_refl 0⟩ ?_
    obtain ⟨hg_7, h⟩ := gd_ex h
    obtain ⟨M_8, eM_8, h⟩ := ltv_ex h
    refine G.sI (j := (ix x3)) C (sc_41 hE) hg_7 rfl dX6_layWords_33 eM_8 ?_
    obtain ⟨x3_9, ex3_9, h⟩ := ltv_ex h
    refine G.iinc (L' := [(3, .int x3_9), (0, .ref (eA E 34)), (1, .int x1), (2, .int x2)]) C 3 dX6_layWords_34 rfl (ex3_9.trans rfl) (by decide) rfl ?_
    refine G.goto (tgt := 2) C dX6_layWords_37 (by decide) ?_
    exact G.sub [1, 2, 3, 0] rfl (hk_2 _ _ _ _  h)
def b_X6_layWords_34_2 : Nat → Int32 → Int32 → Int32 → Mm → Option Mm
  | 0, _, _, _, _ => none
  | n + 1, x1, x2, x3, M => bb_X6_layWords_34_2 (b_X6_layWords_34_2 n) x1 x2 x3 M
set_option maxHeartbeats 4000000 in
theorem g_X6_layWords_34_2  {n : Nat} {x1 : Int32} {x2 : Int32} {x3 : Int32} {M : Mm} {M' : Mm} (hE : Has shC (eH E)) (C : Cx RX6 cX6_layWords 4 p (rmD 3) s m args meth c E) (hr : meth.sig.returnType = none) (h : b_X6_layWords_34_2 n x1 x2 x3 M = some M') : G p l e (rmD 3) s m args below meth c E 4 0 0 (QR below args s E 0 0 none M') 2 [(0, .ref (eA E 34)), (1, .int x1), (2, .int x2), (3, .int x3)] [] M := by
  induction n generalizing x1 x2 x3 M with
  | zero => cases h
  | succ n ih => exact gb_X6_layWords_34_2 hE C hr (fun _ _ _ _ => ih)  h
def bb_X6_layWords_34_0 (x1 : Int32) (x2 : Int32) (M : Mm) : Option Mm := b_X6_layWords_34_2 FU x1 x2 (0 : Int32) M
set_option maxHeartbeats 4000000 in
set_option maxRecDepth 100000 in
theorem gb_X6_layWords_34_0  {x1 : Int32} {x2 : Int32} {M : Mm} {M' : Mm} (hE : Has shC (eH E)) (C : Cx RX6 cX6_layWords 4 p (rmD 3) s m args meth c E) (hr : meth.sig.returnType = none) (h : bb_X6_layWords_34_0 x1 x2 M = some M') : G p l e (rmD 3) s m args below meth c E 4 0 0 (QR below args s E 0 0 none M') 0 [(0, .ref (eA E 34)), (1, .int x1), (2, .int x2)] [] M := by
  unfold bb_X6_layWords_34_0 at h
  refine G.iconst (v := (0 : Int32)) C dX6_layWords_0 (by decide) ?_
  refine G.istore_n (L' := [(3, .int (0 : Int32)), (0, .ref (eA E 34)), (1, .int x1), (2, .int x2)]) C dX6_layWords_1 rfl rfl (by decide) rfl ?_
  exact G.sub [1, 2, 3, 0] rfl (g_X6_layWords_34_2 hE C hr  h)
def f_X6_layWords_34 (x1 : Int32) (x2 : Int32) (M : Mm) : Option Mm := bb_X6_layWords_34_0 x1 x2 M
theorem s_X6_layWords_34 {l : Launch} {E : Ev} {x1 : Int32} {x2 : Int32} {M : Mm} {M' : Mm} (hE : Has shC (eH E)) (h : f_X6_layWords_34 x1 x2 M = some M') : MetA l yX6_layWords cX6_layWords 4 none 3 E [.ref (eA E 34), .int x1, .int x2] M none M' := by
  refine MetA.of (by decide +kernel) (Nat.le_of_ble_eq_true rfl) ?_
  intro p e s m below meth c C hr hnm
  exact G.sub [0, 1, 2] rfl (gb_X6_layWords_34_0 hE C hr  h)
def bb_X6_unevenAtLeast_34_43 (k_8 : Int32 → Int32 → Int32 → Int32 → Mm → Option Int32) (x1 : Int32) (x2 : Int32) (x3 : Int32) (x4 : Int32) (s0 : Int32) (M : Mm) : Option Int32 := gd (inb x4 6) (gd (inb x4 6) (bd (f_X6_colourBy (M.1 40 (ix x4)) ((M.1 41 (ix x4)) + s0)) fun v_5 => ltv (if x2 < v_5 then v_5 else x2) fun x2_6 => gd (inb x4 6) (gd (inb x4 6) (bd (f_X6_colourBy (M.1 40 (ix x4)) (M.1 41 (ix x4))) fun v_10 => ltv (if v_10 < x3 then v_10 else x3) fun x3_11 => ltv (x4 + (1 : Int32)) fun x4_12 => k_8 x1 x2_6 x3_11 x4_12 M))))
set_option maxHeartbeats 4000000 in
set_option maxRecDepth 100000 in
theorem gb_X6_unevenAtLeast_34_43  {k_8 : Int32 → Int32 → Int32 → Int32 → Mm → Option Int32} {x1 : Int32} {x2 : Int32} {x3 : Int32} {x4 : Int32} {s0 : Int32} {M : Mm} {v : Int32} (hE : Has shC (eH E)) (C : Cx RX6 cX6_unevenAtLeast 6 p (rmD 2) s m args meth c E) (hr : meth.sig.returnType = (some .int)) (hk_8 : ∀ (x1 : Int32) (x2 : Int32) (x3 : Int32) (x4 : Int32) (M : Mm), k_8 x1 x2 x3 x4 M = some v → G p l e (rmD 2) s m args below meth c E 6 0 0 (QR below args s E 0 0 (some (.int v)) M) 8 [(0, .ref (eA E 34)), (1, .int x1), (2, .int x2), (3, .int x3), (4, .int x4)] [] M) (h : bb_X6_unevenAtLeast_34_43 k_8 x1 x2 x3 x4 s0 M = some v) : G p l e (rmD 2) s m args below meth c E 6 0 0 (QR below args s E 0 0 (some (.int v)) M) 43 [(0, .ref (eA E 34)), (1, .int x1), (2, .int x2), (3, .int x3), (4, .int x4)] [.int s0] M := by
  unfold bb_X6_unevenAtLeast_34_43 at h
  refine G.istore (L' := [(5, .int s0), (0, .ref (eA E 34)), (1, .int x1), (2, .int x2), (3, .int x3), (4, .int x4)]) C dX6_unevenAtLeast_43 rfl (by decide) rfl ?_
  refine G.iload_n C 3 dX6_unevenAtLeast_45 rfl rfl ?_
  refine G.aload_n C 1 dX6_unevenAtLeast_46 rfl rfl ?_
  refine G.getR (k := 7) C k_X6 (sc_34 hE) rfl (by decide) tg_303 dX6_unevenAtLeast_47 ?_
  refine G.iload C 5 dX6_unevenAtLeast_50 rfl ?_
  obtain ⟨hg_2, h⟩ := gd_ex h
  refine G.aI (j := ix x4) C (sc_40 hE) hg_2 rfl dX6_unevenAtLeast_52 ?_
  refine G.aload_n C 1 dX6_unevenAtLeast_53 rfl rfl ?_
  refine G.getR (k := 8) C k_X6 (sc_34 hE) rfl (by decide) tg_304 dX6_unevenAtLeast_54 ?_
  refine G.iload C 5 dX6_unevenAtLeast_57 rfl ?_
  obtain ⟨hg_3, h⟩ := gd_ex h
  refine G.aI (j := ix x4) C (sc_41 hE) hg_3 rfl dX6_unevenAtLeast_59 ?_
  refine G.iload C 0 dX6_unevenAtLeast_60 rfl ?_
  refine G.iadd C dX6_unevenAtLeast_62 ?_
  obtain ⟨v_5, hv_4, h⟩ := bd_ex h
  refine G.callS (rest := [.int x2]) C (s_X6_colourBy  hv_4) ⟨tg_1223, tg_96, ok_X6_colourBy, Nat.le_of_ble_eq_true rfl, Nat.le_of_ble_eq_true rfl⟩ tg_1221 tg_1222 rfl (Nat.le_of_ble_eq_true rfl) dX6_unevenAtLeast_63 ⟨Nat.le_refl 0, Nat.le_refl 0⟩ ?_
  refine G.mmax (rest := []) C tg_1244 tg_1245 tg_100 tg_1246 ⟨Nat.le_of_ble_eq_true rfl, Nat.le_of_ble_eq_true rfl⟩ (Nat.le_of_ble_eq_true rfl) ⟨Nat.le_refl 0, Nat.le_refl 0⟩ dX6_unevenAtLeast_66 ?_
  obtain ⟨x2_6, ex2_6, h⟩ := ltv_ex h
  refine G.istore_n (L' := [(2, .int x2_6), (5, .int s0), (0, .ref (eA E 34)), (1, .int x1), (3, .int x3), (4, .int x4)]) C dX6_unevenAtLeast_69 rfl ex2_6 (by decide) rfl ?_
  refine G.iload_n C 4 dX6_unevenAtLeast_70 rfl rfl ?_
  refine G.aload_n C 2 dX6_unevenAtLeast_71 rfl rfl ?_
  refine G.getR (k := 7) C k_X6 (sc_34 hE) rfl (by decide) tg_303 dX6_unevenAtLeast_72 ?_
  refine G.iload C 5 dX6_unevenAtLeast_75 rfl ?_
  obtain ⟨hg_7, h⟩ := gd_ex h
  refine G.aI (j := ix x4) C (sc_40 hE) hg_7 rfl dX6_unevenAtLeast_77 ?_
  refine G.aload_n C 2 dX6_unevenAtLeast_78 rfl rfl ?_
  refine G.getR (k := 8) C k_X6 (sc_34 hE) rfl (by decide) tg_304 dX6_unevenAtLeast_79 ?_
  refine G.iload C 5 dX6_unevenAtLeast_82 rfl ?_
  obtain ⟨hg_8, h⟩ := gd_ex h
  refine G.aI (j := ix x4) C (sc_41 hE) hg_8 rfl dX6_unevenAtLeast_84 ?_
  obtain ⟨v_10, hv_9, h⟩ := bd_ex h
  refine G.callS (rest := [.int x3]) C (s_X6_colourBy  hv_9) ⟨tg_1223, tg_96, ok_X6_colourBy, Nat.le_of_ble_eq_true rfl, Nat.le_of_ble_eq_true rfl⟩ tg_1221 tg_1222 rfl (Nat.le_of_ble_eq_true rfl) dX6_unevenAtLeast_85 ⟨Nat.le_refl 0, Nat.le_refl 0⟩ ?_
  refine G.mmin (rest := []) C tg_1247 tg_421 tg_100 tg_422 ⟨Nat.le_of_ble_eq_true rfl, Nat.le_of_ble_eq_true rfl⟩ (Nat.le_of_ble_eq_true rfl) ⟨Nat.le_refl 0, Nat.le_refl 0⟩ dX6_unevenAtLeast_88 ?_
  obtain ⟨x3_11, ex3_11, h⟩ := ltv_ex h
  refine G.istore_n (L' := [(3, .int x3_11), (2, .int x2_6), (5, .int s0), (0, .ref (eA E 34)), (1, .int x1), (4, .int x4)]) C dX6_unevenAtLeast_91 rfl ex3_11 (by decide) rfl ?_
  obtain ⟨x4_12, ex4_12, h⟩ := ltv_ex h
  refine G.iinc (L' := [(4, .int x4_12), (3, .int x3_11), (2, .int x2_6), (5, .int s0), (0, .ref (eA E 34)), (1, .int x1)]) C 5 dX6_unevenAtLeast_92 rfl (ex4_12.trans rfl) (by decide) rfl ?_
  refine G.goto (tgt := 8) C dX6_unevenAtLeast_95 (by decide) ?_
  exact G.sub [4, 5, 2, 1, 0] rfl (hk_8 _ _ _ _ _  h)
def bb_X6_unevenAtLeast_34_42 (k_8 : Int32 → Int32 → Int32 → Int32 → Mm → Option Int32) (x1 : Int32) (x2 : Int32) (x3 : Int32) (x4 : Int32) (M : Mm) : Option Int32 := bb_X6_unevenAtLeast_34_43 k_8 x1 x2 x3 x4 (0 : Int32) M
set_option maxHeartbeats 4000000 in
set_option maxRecDepth 100000 in
theorem gb_X6_unevenAtLeast_34_42  {k_8 : Int32 → Int32 → Int32 → Int32 → Mm → Option Int32} {x1 : Int32} {x2 : Int32} {x3 : Int32} {x4 : Int32} {M : Mm} {v : Int32} (hE : Has shC (eH E)) (C : Cx RX6 cX6_unevenAtLeast 6 p (rmD 2) s m args meth c E) (hr : meth.sig.returnType = (some .int)) (hk_8 : ∀ (x1 : Int32) (x2 : Int32) (x3 : Int32) (x4 : Int32) (M : Mm), k_8 x1 x2 x3 x4 M = some v → G p l e (rmD 2) s m args below meth c E 6 0 0 (QR below args s E 0 0 (some (.int v)) M) 8 [(0, .ref (eA E 34)), (1, .int x1), (2, .int x2), (3, .int x3), (4, .int x4)] [] M) (h : bb_X6_unevenAtLeast_34_42 k_8 x1 x2 x3 x4 M = some v) : G p l e (rmD 2) s m args below meth c E 6 0 0 (QR below args s E 0 0 (some (.int v)) M) 42 [(0, .ref (eA E 34)), (1, .int x1), (2, .int x2), (3, .int x3), (4, .int x4)] [] M := by
  unfold bb_X6_unevenAtLeast_34_42 at h
  refine G.iconst (v := (0 : Int32)) C dX6_unevenAtLeast_42 (by decide) ?_
  exact G.sub [0, 1, 2, 3, 4] rfl (gb_X6_unevenAtLeast_34_43 hE C hr hk_8  h)
def bb_X6_unevenAtLeast_34_8 (k_8 : Int32 → Int32 → Int32 → Int32 → Mm → Option Int32) (x1 : Int32) (x2 : Int32) (x3 : Int32) (x4 : Int32) (M : Mm) : Option Int32 := if (M.1 34 1) ≤ x4 then (if (M.1 34 1) = 0 then (some (0 : Int32)) else (some (if (0 : Int32) < (x2 - x3) then (x2 - x3) else (0 : Int32)))) else (if x1 < 0 then (bb_X6_unevenAtLeast_34_42 k_8 x1 x2 x3 x4 M) else (if (6 : Int32) ≤ x1 then (bb_X6_unevenAtLeast_34_42 k_8 x1 x2 x3 x4 M) else (gd (inb (((6 : Int32) * x4) + x1) 36) (bb_X6_unevenAtLeast_34_43 k_8 x1 x2 x3 x4 (M.1 42 (ix (((6 : Int32) * x4) + x1))) M))))
set_option maxHeartbeats 4000000 in
set_option maxRecDepth 100000 in
theorem gb_X6_unevenAtLeast_34_8  {k_8 : Int32 → Int32 → Int32 → Int32 → Mm → Option Int32} {x1 : Int32} {x2 : Int32} {x3 : Int32} {x4 : Int32} {M : Mm} {v : Int32} (hE : Has shC (eH E)) (C : Cx RX6 cX6_unevenAtLeast 6 p (rmD 2) s m args meth c E) (hr : meth.sig.returnType = (some .int)) (hk_8 : ∀ (x1 : Int32) (x2 : Int32) (x3 : Int32) (x4 : Int32) (M : Mm), k_8 x1 x2 x3 x4 M = some v → G p l e (rmD 2) s m args below meth c E 6 0 0 (QR below args s E 0 0 (some (.int v)) M) 8 [(0, .ref (eA E 34)), (1, .int x1), (2, .int x2), (3, .int x3), (4, .int x4)] [] M) (h : bb_X6_unevenAtLeast_34_8 k_8 x1 x2 x3 x4 M = some v) : G p l e (rmD 2) s m args below meth c E 6 0 0 (QR below args s E 0 0 (some (.int v)) M) 8 [(0, .ref (eA E 34)), (1, .int x1), (2, .int x2), (3, .int x3), (4, .int x4)] [] M := by
  unfold bb_X6_unevenAtLeast_34_8 at h
  refine G.iload C 4 dX6_unevenAtLeast_8 rfl ?_
  refine G.aload_n C 0 dX6_unevenAtLeast_10 rfl rfl ?_
  refine G.getI (k := 1) C k_X6 (sc_34 hE) rfl (by decide) tg_297 dX6_unevenAtLeast_11 ?_
  refine G.icmp_ge (tgt := 98) C dX6_unevenAtLeast_14 (by decide) (fun hc => ?_) (fun hc => ?_)
  · have h := it_t h hc
    refine G.aload_n C 0 dX6_unevenAtLeast_98 rfl rfl ?_
    refine G.getI (k := 1) C k_X6 (sc_34 hE) rfl (by decide) tg_297 dX6_unevenAtLeast_99 ?_
    refine G.if_ne (tgt := 109) C dX6_unevenAtLeast_102 (by decide) (fun hc => ?_) (fun hc => ?_)
    · have h := it_f h hc
      refine G.iconst (v := (0 : Int32)) C dX6_unevenAtLeast_109 (by decide) ?_
      refine G.iload_n C 2 dX6_unevenAtLeast_110 rfl rfl ?_
      refine G.iload_n C 3 dX6_unevenAtLeast_111 rfl rfl ?_
      refine G.isub C dX6_unevenAtLeast_112 ?_
      refine G.mmax (rest := []) C tg_1244 tg_1245 tg_100 tg_1246 ⟨Nat.le_of_ble_eq_true rfl, Nat.le_of_ble_eq_true rfl⟩ (Nat.le_of_ble_eq_true rfl) ⟨Nat.le_refl 0, Nat.le_refl 0⟩ dX6_unevenAtLeast_113 ?_
      cases h
      exact G.iret C hr dX6_unevenAtLeast_116
    · have h := it_t h hc
      refine G.iconst (v := (0 : Int32)) C dX6_unevenAtLeast_105 (by decide) ?_
      refine G.goto (tgt := 116) C dX6_unevenAtLeast_106 (by decide) ?_
      cases h
      exact G.iret C hr dX6_unevenAtLeast_116
  · have h := it_f h hc
    refine G.iload_n C 1 dX6_unevenAtLeast_17 rfl rfl ?_
    refine G.if_lt (tgt := 42) C dX6_unevenAtLeast_18 (by decide) (fun hc => ?_) (fun hc => ?_)
    · have h := it_t h hc
      exact G.sub [0, 1, 2, 3, 4] rfl (gb_X6_unevenAtLeast_34_42 hE C hr hk_8  h)
    · have h := it_f h hc
      refine G.iload_n C 1 dX6_unevenAtLeast_21 rfl rfl ?_
      refine G.bipush (v := (6 : Int32)) C dX6_unevenAtLeast_22 (by decide) ?_
      refine G.icmp_ge (tgt := 42) C dX6_unevenAtLeast_24 (by decide) (fun hc => ?_) (fun hc => ?_)
      · have h := it_t h hc
        exact G.sub [0, 1, 2, 3, 4] rfl (gb_X6_unevenAtLeast_34_42 hE C hr hk_8  h)
      · have h := it_f h hc
        refine G.aload_n C 0 dX6_unevenAtLeast_27 rfl rfl ?_
        refine G.getR (k := 9) C k_X6 (sc_34 hE) rfl (by decide) tg_305 dX6_unevenAtLeast_28 ?_
        refine G.bipush (v := (6 : Int32)) C dX6_unevenAtLeast_31 (by decide) ?_
        refine G.iload C 4 dX6_unevenAtLeast_33 rfl ?_
        refine G.imul C dX6_unevenAtLeast_35 ?_
        refine G.iload_n C 1 dX6_unevenAtLeast_36 rfl rfl ?_
        refine G.iadd C dX6_unevenAtLeast_37 ?_
        obtain ⟨hg_1, h⟩ := gd_ex h
        refine G.aI (j := ix (((6 : Int32) * x4) + x1)) C (sc_42 hE) hg_1 rfl dX6_unevenAtLeast_38 ?_
        refine G.goto (tgt := 43) C dX6_unevenAtLeast_39 (by decide) ?_
        exact G.sub [0, 1, 2, 3, 4] rfl (gb_X6_unevenAtLeast_34_43 hE C hr hk_8  h)
def b_X6_unevenAtLeast_34_8 : Nat → Int32 → Int32 → Int32 → Int32 → Mm → Option Int32
  | 0, _, _, _, _, _ => none
  | n + 1, x1, x2, x3, x4, M => bb_X6_unevenAtLeast_34_8 (b_X6_unevenAtLeast_34_8 n) x1 x2 x3 x4 M
set_option maxHeartbeats 4000000 in
theorem g_X6_unevenAtLeast_34_8  {n : Nat} {x1 : Int32} {x2 : Int32} {x3 : Int32} {x4 : Int32} {M : Mm} {v : Int32} (hE : Has shC (eH E)) (C : Cx RX6 cX6_unevenAtLeast 6 p (rmD 2) s m args meth c E) (hr : meth.sig.returnType = (some .int)) (h : b_X6_unevenAtLeast_34_8 n x1 x2 x3 x4 M = some v) : G p l e (rmD 2) s m args below meth c E 6 0 0 (QR below args s E 0 0 (some (.int v)) M) 8 [(0, .ref (eA E 34)), (1, .int x1), (2, .int x2), (3, .int x3), (4, .int x4)] [] M := by
  induction n generalizing x1 x2 x3 x4 M with
  | zero => cases h
  | succ n ih => exact gb_X6_unevenAtLeast_34_8 hE C hr (fun _ _ _ _ _ => ih)  h
def bb_X6_unevenAtLeast_34_0 (x1 : Int32) (M : Mm) : Option Int32 := b_X6_unevenAtLeast_34_8 FU x1 (0 : Int32) (1000000 : Int32) (0 : Int32) M
set_option maxHeartbeats 4000000 in
set_option maxRecDepth 100000 in
theorem gb_X6_unevenAtLeast_34_0  {x1 : Int32} {M : Mm} {v : Int32} (hE : Has shC (eH E)) (C : Cx RX6 cX6_unevenAtLeast 6 p (rmD 2) s m args meth c E) (hr : meth.sig.returnType = (some .int)) (h : bb_X6_unevenAtLeast_34_0 x1 M = some v) : G p l e (rmD 2) s m args below meth c E 6 0 0 (QR below args s E 0 0 (some (.int v)) M) 0 [(0, .ref (eA E 34)), (1, .int x1)] [] M := by
  unfold bb_X6_unevenAtLeast_34_0 at h
  refine G.iconst (v := (0 : Int32)) C dX6_unevenAtLeast_0 (by decide) ?_
  refine G.istore_n (L' := [(2, .int (0 : Int32)), (0, .ref (eA E 34)), (1, .int x1)]) C dX6_unevenAtLeast_1 rfl rfl (by decide) rfl ?_
  refine G.ldc C tg_1243 dX6_unevenAtLeast_2 ?_
  refine G.istore_n (L' := [(3, .int (1000000 : Int32)), (2, .int (0 : Int32)), (0, .ref (eA E 34)), (1, .int x1)]) C dX6_unevenAtLeast_4 rfl rfl (by decide) rfl ?_
  refine G.iconst (v := (0 : Int32)) C dX6_unevenAtLeast_5 (by decide) ?_
  refine G.istore (L' := [(4, .int (0 : Int32)), (3, .int (1000000 : Int32)), (2, .int (0 : Int32)), (0, .ref (eA E 34)), (1, .int x1)]) C dX6_unevenAtLeast_6 rfl (by decide) rfl ?_
  exact G.sub [3, 4, 2, 1, 0] rfl (g_X6_unevenAtLeast_34_8 hE C hr  h)
def f_X6_unevenAtLeast_34 (x1 : Int32) (M : Mm) : Option Int32 := bb_X6_unevenAtLeast_34_0 x1 M
theorem s_X6_unevenAtLeast_34 {l : Launch} {E : Ev} {x1 : Int32} {M : Mm} {v : Int32} (hE : Has shC (eH E)) (h : f_X6_unevenAtLeast_34 x1 M = some v) : MetA l yX6_unevenAtLeast cX6_unevenAtLeast 6 (some .int) 2 E [.ref (eA E 34), .int x1] M (some (.int v)) M := by
  refine MetA.of (by decide +kernel) (Nat.le_of_ble_eq_true rfl) ?_
  intro p e s m below meth c C hr hnm
  exact G.sub [0, 1] rfl (gb_X6_unevenAtLeast_34_0 hE C hr  h)
def bb_X6_unevenOf_34_0 (x1 : Int32) (x2 : Int32) (M : Mm) : Option (Int32 × Mm) := bd (f_X6_layWords_34 x1 x2 M) fun M_2 => bd (f_X6_unevenAtLeast_34 (-1 : Int32) M_2) fun v_4 => some (v_4, M_2)
set_option maxHeartbeats 4000000 in
set_option maxRecDepth 100000 in
theorem gb_X6_unevenOf_34_0  {x1 : Int32} {x2 : Int32} {M : Mm} {v : Int32} {M' : Mm} (hE : Has shC (eH E)) (C : Cx RX6 cX6_unevenOf 3 p (rmD 4) s m args meth c E) (hr : meth.sig.returnType = (some .int)) (h : bb_X6_unevenOf_34_0 x1 x2 M = some (v, M')) : G p l e (rmD 4) s m args below meth c E 3 0 0 (QR below args s E 0 0 (some (.int v)) M') 0 [(0, .ref (eA E 34)), (1, .int x1), (2, .int x2)] [] M := by
  unfold bb_X6_unevenOf_34_0 at h
  refine G.aload_n C 0 dX6_unevenOf_0 rfl rfl ?_
  refine G.iload_n C 1 dX6_unevenOf_1 rfl rfl ?_
  refine G.iload_n C 2 dX6_unevenOf_2 rfl rfl ?_
  obtain ⟨M_2, hv_1, h⟩ := bd_ex h
  refine G.callV (rest := []) C (s_X6_layWords_34 hE  hv_1) ⟨tg_1238, tg_96, ok_X6_layWords, Nat.le_of_ble_eq_true rfl, Nat.le_of_ble_eq_true rfl⟩ tg_1235 tg_1237 tg_34 (sc_34 hE) rfl rfl (Nat.le_of_ble_eq_true rfl) dX6_unevenOf_3 ⟨Nat.le_refl 0, Nat.le_refl 0⟩ ?_
  refine G.aload_n C 0 dX6_unevenOf_6 rfl rfl ?_
  refine G.iconst (v := (-1 : Int32)) C dX6_unevenOf_7 (by decide) ?_
  obtain ⟨v_4, hv_3, h⟩ := bd_ex h
  refine G.callV (rest := []) C (s_X6_unevenAtLeast_34 hE  hv_3) ⟨tg_1242, tg_96, ok_X6_unevenAtLeast, Nat.le_of_ble_eq_true rfl, Nat.le_of_ble_eq_true rfl⟩ tg_1239 tg_1241 tg_35 (sc_34 hE) rfl rfl (Nat.le_of_ble_eq_true rfl) dX6_unevenOf_8 ⟨Nat.le_refl 0, Nat.le_refl 0⟩ ?_
  cases h
  exact G.iret C hr dX6_unevenOf_11
def f_X6_unevenOf_34 (x1 : Int32) (x2 : Int32) (M : Mm) : Option (Int32 × Mm) := bb_X6_unevenOf_34_0 x1 x2 M
theorem s_X6_unevenOf_34 {l : Launch} {E : Ev} {x1 : Int32} {x2 : Int32} {M : Mm} {v : Int32} {M' : Mm} (hE : Has shC (eH E)) (h : f_X6_unevenOf_34 x1 x2 M = some (v, M')) : MetA l yX6_unevenOf cX6_unevenOf 3 (some .int) 4 E [.ref (eA E 34), .int x1, .int x2] M (some (.int v)) M' := by
  refine MetA.of (by decide +kernel) (Nat.le_of_ble_eq_true rfl) ?_
  intro p e s m below meth c C hr hnm
  exact G.sub [0, 1, 2] rfl (gb_X6_unevenOf_34_0 hE C hr  h)
def bb_X6_listFree_34_17 (k_4 : Int32 → Int32 → Mm → Option (Int32 × Mm)) (k_17 : Int32 → Int32 → Int32 → Int32 → Mm → Option (Int32 × Mm)) (x1 : Int32) (x2 : Int32) (x3 : Int32) (x4 : Int32) (M : Mm) : Option (Int32 × Mm) := if (M.1 34 1) ≤ x4 then (if x3 = 0 then (if x3 = 0 then (ltv (x2 + (1 : Int32)) fun x2_1 => k_4 x1 x2_1 M) else (ltv (x1 + (1 : Int32)) fun x1_2 => ltv (x2 + (1 : Int32)) fun x2_3 => k_4 x1_2 x2_3 M)) else (if (6 : Int32) ≤ x1 then (if x3 = 0 then (ltv (x2 + (1 : Int32)) fun x2_4 => k_4 x1 x2_4 M) else (ltv (x1 + (1 : Int32)) fun x1_5 => ltv (x2 + (1 : Int32)) fun x2_6 => k_4 x1_5 x2_6 M)) else (gd (inb x1 6) (ltv (wI M 39 (ix x1) x2) fun M_8 => if x3 = 0 then (ltv (x2 + (1 : Int32)) fun x2_9 => k_4 x1 x2_9 M_8) else (ltv (x1 + (1 : Int32)) fun x1_10 => ltv (x2 + (1 : Int32)) fun x2_11 => k_4 x1_10 x2_11 M_8))))) else (if x3 = 0 then (gd (inb (((10 : Int32) * x4) + x2) 60) (if (M.1 43 (ix (((10 : Int32) * x4) + x2))) ≤ 0 then (ltv (x4 + (1 : Int32)) fun x4_14 => k_17 x1 x2 (0 : Int32) x4_14 M) else (ltv (x4 + (1 : Int32)) fun x4_15 => k_17 x1 x2 (1 : Int32) x4_15 M))) else (ltv (x4 + (1 : Int32)) fun x4_12 => k_17 x1 x2 (1 : Int32) x4_12 M))
set_option maxHeartbeats 4000000 in
set_option maxRecDepth 100000 in
theorem gb_X6_listFree_34_17  {k_4 : Int32 → Int32 → Mm → Option (Int32 × Mm)} {k_17 : Int32 → Int32 → Int32 → Int32 → Mm → Option (Int32 × Mm)} {x1 : Int32} {x2 : Int32} {x3 : Int32} {x4 : Int32} {M : Mm} {v : Int32} {M' : Mm} (hE : Has shC (eH E)) (C : Cx RX6 cX6_listFree 5 p (rmD 1) s m args meth c E) (hr : meth.sig.returnType = (some .int)) (hk_4 : ∀ (x1 : Int32) (x2 : Int32) (M : Mm), k_4 x1 x2 M = some (v, M') → G p l e (rmD 1) s m args below meth c E 5 0 0 (QR below args s E 0 0 (some (.int v)) M') 4 [(0, .ref (eA E 34)), (1, .int x1), (2, .int x2)] [] M) (hk_17 : ∀ (x1 : Int32) (x2 : Int32) (x3 : Int32) (x4 : Int32) (M : Mm), k_17 x1 x2 x3 x4 M = some (v, M') → G p l e (rmD 1) s m args below meth c E 5 0 0 (QR below args s E 0 0 (some (.int v)) M') 17 [(0, .ref (eA E 34)), (1, .int x1), (2, .int x2), (3, .int x3), (4, .int x4)] [] M) (h : bb_X6_listFree_34_17 k_4 k_17 x1 x2 x3 x4 M = some (v, M')) : G p l e (rmD 1) s m args below meth c E 5 0 0 (QR below args s E 0 0 (some (.int v)) M') 17 [(0, .ref (eA E 34)), (1, .int x1), (2, .int x2), (3, .int x3), (4, .int x4)] [] M := by
  unfold bb_X6_listFree_34_17 at h
  refine G.iload C 4 dX6_listFree_17 rfl ?_
  refine G.aload_n C 0 dX6_listFree_19 rfl rfl ?_
  refine G.getI (k := 1) C k_X6 (sc_34 hE) rfl (by decide) tg_297 dX6_listFree_20 ?_
  refine G.icmp_ge (tgt := 57) C dX6_listFree_23 (by decide) (fun hc => ?_) (fun hc => ?_)
  · have h := it_t h hc
    refine G.iload_n C 3 dX6_listFree_57 rfl rfl ?_
    refine G.if_eq (tgt := 74) C dX6_listFree_58 (by decide) (fun hc => ?_) (fun hc => ?_)
    · have h := it_t h hc
      refine G.iload_n C 3 dX6_listFree_74 rfl rfl ?_
      refine G.if_eq (tgt := 81) C dX6_listFree_75 (by decide) (fun hc => ?_) (fun hc => ?_)
      · have h := it_t h hc
        obtain ⟨x2_1, ex2_1, h⟩ := ltv_ex h
        refine G.iinc (L' := [(2, .int x2_1), (0, .ref (eA E 34)), (1, .int x1), (3, .int x3), (4, .int x4)]) C 2 dX6_listFree_81 rfl (ex2_1.trans rfl) (by decide) rfl ?_
        refine G.goto (tgt := 4) C dX6_listFree_84 (by decide) ?_
        exact G.sub [1, 2, 0] rfl (hk_4 _ _ _  h)
      · have h := it_f h hc
        obtain ⟨x1_2, ex1_2, h⟩ := ltv_ex h
        refine G.iinc (L' := [(1, .int x1_2), (0, .ref (eA E 34)), (2, .int x2), (3, .int x3), (4, .int x4)]) C 1 dX6_listFree_78 rfl (ex1_2.trans rfl) (by decide) rfl ?_
        obtain ⟨x2_3, ex2_3, h⟩ := ltv_ex h
        refine G.iinc (L' := [(2, .int x2_3), (1, .int x1_2), (0, .ref (eA E 34)), (3, .int x3), (4, .int x4)]) C 2 dX6_listFree_81 rfl (ex2_3.trans rfl) (by decide) rfl ?_
        refine G.goto (tgt := 4) C dX6_listFree_84 (by decide) ?_
        exact G.sub [2, 1, 0] rfl (hk_4 _ _ _  h)
    · have h := it_f h hc
      refine G.iload_n C 1 dX6_listFree_61 rfl rfl ?_
      refine G.bipush (v := (6 : Int32)) C dX6_listFree_62 (by decide) ?_
      refine G.icmp_ge (tgt := 74) C dX6_listFree_64 (by decide) (fun hc => ?_) (fun hc => ?_)
      · have h := it_t h hc
        refine G.iload_n C 3 dX6_listFree_74 rfl rfl ?_
        refine G.if_eq (tgt := 81) C dX6_listFree_75 (by decide) (fun hc => ?_) (fun hc => ?_)
        · have h := it_t h hc
          obtain ⟨x2_4, ex2_4, h⟩ := ltv_ex h
          refine G.iinc (L' := [(2, .int x2_4), (0, .ref (eA E 34)), (1, .int x1), (3, .int x3), (4, .int x4)]) C 2 dX6_listFree_81 rfl (ex2_4.trans rfl) (by decide) rfl ?_
          refine G.goto (tgt := 4) C dX6_listFree_84 (by decide) ?_
          exact G.sub [1, 2, 0] rfl (hk_4 _ _ _  h)
        · have h := it_f h hc
          obtain ⟨x1_5, ex1_5, h⟩ := ltv_ex h
          refine G.iinc (L' := [(1, .int x1_5), (0, .ref (eA E 34)), (2, .int x2), (3, .int x3), (4, .int x4)]) C 1 dX6_listFree_78 rfl (ex1_5.trans rfl) (by decide) rfl ?_
          obtain ⟨x2_6, ex2_6, h⟩ := ltv_ex h
          refine G.iinc (L' := [(2, .int x2_6), (1, .int x1_5), (0, .ref (eA E 34)), (3, .int x3), (4, .int x4)]) C 2 dX6_listFree_81 rfl (ex2_6.trans rfl) (by decide) rfl ?_
          refine G.goto (tgt := 4) C dX6_listFree_84 (by decide) ?_
          exact G.sub [2, 1, 0] rfl (hk_4 _ _ _  h)
      · have h := it_f h hc
        refine G.aload_n C 0 dX6_listFree_67 rfl rfl ?_
        refine G.getR (k := 6) C k_X6 (sc_34 hE) rfl (by decide) tg_302 dX6_listFree_68 ?_
        refine G.iload_n C 1 dX6_listFree_71 rfl rfl ?_
        refine G.iload_n C 2 dX6_listFree_72 rfl rfl ?_
        obtain ⟨hg_7, h⟩ := gd_ex h
        obtain ⟨M_8, eM_8, h⟩ := ltv_ex h
        refine G.sI (j := (ix x1)) C (sc_39 hE) hg_7 rfl dX6_listFree_73 eM_8 ?_
        refine G.iload_n C 3 dX6_listFree_74 rfl rfl ?_
        refine G.if_eq (tgt := 81) C dX6_listFree_75 (by decide) (fun hc => ?_) (fun hc => ?_)
        · have h := it_t h hc
          obtain ⟨x2_9, ex2_9, h⟩ := ltv_ex h
          refine G.iinc (L' := [(2, .int x2_9), (0, .ref (eA E 34)), (1, .int x1), (3, .int x3), (4, .int x4)]) C 2 dX6_listFree_81 rfl (ex2_9.trans rfl) (by decide) rfl ?_
          refine G.goto (tgt := 4) C dX6_listFree_84 (by decide) ?_
          exact G.sub [1, 2, 0] rfl (hk_4 _ _ _  h)
        · have h := it_f h hc
          obtain ⟨x1_10, ex1_10, h⟩ := ltv_ex h
          refine G.iinc (L' := [(1, .int x1_10), (0, .ref (eA E 34)), (2, .int x2), (3, .int x3), (4, .int x4)]) C 1 dX6_listFree_78 rfl (ex1_10.trans rfl) (by decide) rfl ?_
          obtain ⟨x2_11, ex2_11, h⟩ := ltv_ex h
          refine G.iinc (L' := [(2, .int x2_11), (1, .int x1_10), (0, .ref (eA E 34)), (3, .int x3), (4, .int x4)]) C 2 dX6_listFree_81 rfl (ex2_11.trans rfl) (by decide) rfl ?_
          refine G.goto (tgt := 4) C dX6_listFree_84 (by decide) ?_
          exact G.sub [2, 1, 0] rfl (hk_4 _ _ _  h)
  · have h := it_f h hc
    refine G.iload_n C 3 dX6_listFree_26 rfl rfl ?_
    refine G.if_ne (tgt := 45) C dX6_listFree_27 (by decide) (fun hc => ?_) (fun hc => ?_)
    · have h := it_f h hc
      refine G.iconst (v := (1 : Int32)) C dX6_listFree_45 (by decide) ?_
      refine G.goto (tgt := 50) C dX6_listFree_46 (by decide) ?_
      refine G.istore_n (L' := [(3, .int (1 : Int32)), (0, .ref (eA E 34)), (1, .int x1), (2, .int x2), (4, .int x4)]) C dX6_listFree_50 rfl rfl (by decide) rfl ?_
      obtain ⟨x4_12, ex4_12, h⟩ := ltv_ex h
      refine G.iinc (L' := [(4, .int x4_12), (3, .int (1 : Int32)), (0, .ref (eA E 34)), (1, .int x1), (2, .int x2)]) C 4 dX6_listFree_51 rfl (ex4_12.trans rfl) (by decide) rfl ?_
      refine G.goto (tgt := 17) C dX6_listFree_54 (by decide) ?_
      exact G.sub [2, 3, 4, 1, 0] rfl (hk_17 _ _ _ _ _  h)
    · have h := it_t h hc
      refine G.aload_n C 0 dX6_listFree_30 rfl rfl ?_
      refine G.getR (k := 10) C k_X6 (sc_34 hE) rfl (by decide) tg_306 dX6_listFree_31 ?_
      refine G.bipush (v := (10 : Int32)) C dX6_listFree_34 (by decide) ?_
      refine G.iload C 4 dX6_listFree_36 rfl ?_
      refine G.imul C dX6_listFree_38 ?_
      refine G.iload_n C 2 dX6_listFree_39 rfl rfl ?_
      refine G.iadd C dX6_listFree_40 ?_
      obtain ⟨hg_13, h⟩ := gd_ex h
      refine G.aI (j := ix (((10 : Int32) * x4) + x2)) C (sc_43 hE) hg_13 rfl dX6_listFree_41 ?_
      refine G.if_le (tgt := 49) C dX6_listFree_42 (by decide) (fun hc => ?_) (fun hc => ?_)
      · have h := it_t h hc
        refine G.iconst (v := (0 : Int32)) C dX6_listFree_49 (by decide) ?_
        refine G.istore_n (L' := [(3, .int (0 : Int32)), (0, .ref (eA E 34)), (1, .int x1), (2, .int x2), (4, .int x4)]) C dX6_listFree_50 rfl rfl (by decide) rfl ?_
        obtain ⟨x4_14, ex4_14, h⟩ := ltv_ex h
        refine G.iinc (L' := [(4, .int x4_14), (3, .int (0 : Int32)), (0, .ref (eA E 34)), (1, .int x1), (2, .int x2)]) C 4 dX6_listFree_51 rfl (ex4_14.trans rfl) (by decide) rfl ?_
        refine G.goto (tgt := 17) C dX6_listFree_54 (by decide) ?_
        exact G.sub [2, 3, 4, 1, 0] rfl (hk_17 _ _ _ _ _  h)
      · have h := it_f h hc
        refine G.iconst (v := (1 : Int32)) C dX6_listFree_45 (by decide) ?_
        refine G.goto (tgt := 50) C dX6_listFree_46 (by decide) ?_
        refine G.istore_n (L' := [(3, .int (1 : Int32)), (0, .ref (eA E 34)), (1, .int x1), (2, .int x2), (4, .int x4)]) C dX6_listFree_50 rfl rfl (by decide) rfl ?_
        obtain ⟨x4_15, ex4_15, h⟩ := ltv_ex h
        refine G.iinc (L' := [(4, .int x4_15), (3, .int (1 : Int32)), (0, .ref (eA E 34)), (1, .int x1), (2, .int x2)]) C 4 dX6_listFree_51 rfl (ex4_15.trans rfl) (by decide) rfl ?_
        refine G.goto (tgt := 17) C dX6_listFree_54 (by decide) ?_
        exact G.sub [2, 3, 4, 1, 0] rfl (hk_17 _ _ _ _ _  h)
def b_X6_listFree_34_17 (k_4 : Int32 → Int32 → Mm → Option (Int32 × Mm)) : Nat → Int32 → Int32 → Int32 → Int32 → Mm → Option (Int32 × Mm)
  | 0, _, _, _, _, _ => none
  | n + 1, x1, x2, x3, x4, M => bb_X6_listFree_34_17 k_4 (b_X6_listFree_34_17 k_4 n) x1 x2 x3 x4 M
set_option maxHeartbeats 4000000 in
theorem g_X6_listFree_34_17  {k_4 : Int32 → Int32 → Mm → Option (Int32 × Mm)} {n : Nat} {x1 : Int32} {x2 : Int32} {x3 : Int32} {x4 : Int32} {M : Mm} {v : Int32} {M' : Mm} (hE : Has shC (eH E)) (C : Cx RX6 cX6_listFree 5 p (rmD 1) s m args meth c E) (hr : meth.sig.returnType = (some .int)) (hk_4 : ∀ (x1 : Int32) (x2 : Int32) (M : Mm), k_4 x1 x2 M = some (v, M') → G p l e (rmD 1) s m args below meth c E 5 0 0 (QR below args s E 0 0 (some (.int v)) M') 4 [(0, .ref (eA E 34)), (1, .int x1), (2, .int x2)] [] M) (h : b_X6_listFree_34_17 k_4 n x1 x2 x3 x4 M = some (v, M')) : G p l e (rmD 1) s m args below meth c E 5 0 0 (QR below args s E 0 0 (some (.int v)) M') 17 [(0, .ref (eA E 34)), (1, .int x1), (2, .int x2), (3, .int x3), (4, .int x4)] [] M := by
  induction n generalizing x1 x2 x3 x4 M with
  | zero => cases h
  | succ n ih => exact gb_X6_listFree_34_17 hE C hr hk_4 (fun _ _ _ _ _ => ih)  h
def bb_X6_listFree_34_4 (k_4 : Int32 → Int32 → Mm → Option (Int32 × Mm)) (x1 : Int32) (x2 : Int32) (M : Mm) : Option (Int32 × Mm) := if (M.1 34 0) ≤ x2 then (some (x1, M)) else (b_X6_listFree_34_17 k_4 FU x1 x2 (0 : Int32) (0 : Int32) M)
set_option maxHeartbeats 4000000 in
set_option maxRecDepth 100000 in
theorem gb_X6_listFree_34_4  {k_4 : Int32 → Int32 → Mm → Option (Int32 × Mm)} {x1 : Int32} {x2 : Int32} {M : Mm} {v : Int32} {M' : Mm} (hE : Has shC (eH E)) (C : Cx RX6 cX6_listFree 5 p (rmD 1) s m args meth c E) (hr : meth.sig.returnType = (some .int)) (hk_4 : ∀ (x1 : Int32) (x2 : Int32) (M : Mm), k_4 x1 x2 M = some (v, M') → G p l e (rmD 1) s m args below meth c E 5 0 0 (QR below args s E 0 0 (some (.int v)) M') 4 [(0, .ref (eA E 34)), (1, .int x1), (2, .int x2)] [] M) (h : bb_X6_listFree_34_4 k_4 x1 x2 M = some (v, M')) : G p l e (rmD 1) s m args below meth c E 5 0 0 (QR below args s E 0 0 (some (.int v)) M') 4 [(0, .ref (eA E 34)), (1, .int x1), (2, .int x2)] [] M := by
  unfold bb_X6_listFree_34_4 at h
  refine G.iload_n C 2 dX6_listFree_4 rfl rfl ?_
  refine G.aload_n C 0 dX6_listFree_5 rfl rfl ?_
  refine G.getI (k := 0) C k_X6 (sc_34 hE) rfl (by decide) tg_296 dX6_listFree_6 ?_
  refine G.icmp_ge (tgt := 87) C dX6_listFree_9 (by decide) (fun hc => ?_) (fun hc => ?_)
  · have h := it_t h hc
    refine G.iload_n C 1 dX6_listFree_87 rfl rfl ?_
    cases h
    exact G.iret C hr dX6_listFree_88
  · have h := it_f h hc
    refine G.iconst (v := (0 : Int32)) C dX6_listFree_12 (by decide) ?_
    refine G.istore_n (L' := [(3, .int (0 : Int32)), (0, .ref (eA E 34)), (1, .int x1), (2, .int x2)]) C dX6_listFree_13 rfl rfl (by decide) rfl ?_
    refine G.iconst (v := (0 : Int32)) C dX6_listFree_14 (by decide) ?_
    refine G.istore (L' := [(4, .int (0 : Int32)), (3, .int (0 : Int32)), (0, .ref (eA E 34)), (1, .int x1), (2, .int x2)]) C dX6_listFree_15 rfl (by decide) rfl ?_
    exact G.sub [2, 3, 4, 1, 0] rfl (g_X6_listFree_34_17 hE C hr hk_4  h)
def b_X6_listFree_34_4 : Nat → Int32 → Int32 → Mm → Option (Int32 × Mm)
  | 0, _, _, _ => none
  | n + 1, x1, x2, M => bb_X6_listFree_34_4 (b_X6_listFree_34_4 n) x1 x2 M
set_option maxHeartbeats 4000000 in
theorem g_X6_listFree_34_4  {n : Nat} {x1 : Int32} {x2 : Int32} {M : Mm} {v : Int32} {M' : Mm} (hE : Has shC (eH E)) (C : Cx RX6 cX6_listFree 5 p (rmD 1) s m args meth c E) (hr : meth.sig.returnType = (some .int)) (h : b_X6_listFree_34_4 n x1 x2 M = some (v, M')) : G p l e (rmD 1) s m args below meth c E 5 0 0 (QR below args s E 0 0 (some (.int v)) M') 4 [(0, .ref (eA E 34)), (1, .int x1), (2, .int x2)] [] M := by
  induction n generalizing x1 x2 M with
  | zero => cases h
  | succ n ih => exact gb_X6_listFree_34_4 hE C hr (fun _ _ _ => ih)  h
def bb_X6_listFree_34_0  (M : Mm) : Option (Int32 × Mm) := b_X6_listFree_34_4 FU (0 : Int32) (0 : Int32) M
set_option maxHeartbeats 4000000 in
set_option maxRecDepth 100000 in
theorem gb_X6_listFree_34_0   {M : Mm} {v : Int32} {M' : Mm} (hE : Has shC (eH E)) (C : Cx RX6 cX6_listFree 5 p (rmD 1) s m args meth c E) (hr : meth.sig.returnType = (some .int)) (h : bb_X6_listFree_34_0 M = some (v, M')) : G p l e (rmD 1) s m args below meth c E 5 0 0 (QR below args s E 0 0 (some (.int v)) M') 0 [(0, .ref (eA E 34))] [] M := by
  unfold bb_X6_listFree_34_0 at h
  refine G.iconst (v := (0 : Int32)) C dX6_listFree_0 (by decide) ?_
  refine G.istore_n (L' := [(1, .int (0 : Int32)), (0, .ref (eA E 34))]) C dX6_listFree_1 rfl rfl (by decide) rfl ?_
  refine G.iconst (v := (0 : Int32)) C dX6_listFree_2 (by decide) ?_
  refine G.istore_n (L' := [(2, .int (0 : Int32)), (1, .int (0 : Int32)), (0, .ref (eA E 34))]) C dX6_listFree_3 rfl rfl (by decide) rfl ?_
  exact G.sub [2, 1, 0] rfl (g_X6_listFree_34_4 hE C hr  h)
def f_X6_listFree_34  (M : Mm) : Option (Int32 × Mm) := bb_X6_listFree_34_0 M
theorem s_X6_listFree_34 {l : Launch} {E : Ev}  {M : Mm} {v : Int32} {M' : Mm} (hE : Has shC (eH E)) (h : f_X6_listFree_34 M = some (v, M')) : MetA l yX6_listFree cX6_listFree 5 (some .int) 1 E [.ref (eA E 34)] M (some (.int v)) M' := by
  refine MetA.of (by decide +kernel) (Nat.le_of_ble_eq_true rfl) ?_
  intro p e s m below meth c C hr hnm
  exact G.sub [0] rfl (gb_X6_listFree_34_0 hE C hr  h)
def bb_X6_layWider_34_15 (k_2 : Int32 → Int32 → Mm → Option Mm) (k_15 : Int32 → Int32 → Int32 → Int32 → Mm → Option Mm) (x1 : Int32) (x2 : Int32) (x3 : Int32) (x4 : Int32) (M : Mm) : Option Mm := if x1 ≤ x4 then (ltv (x2 + (1 : Int32)) fun x2_1 => k_2 x1 x2_1 M) else (if (6 : Int32) ≤ x4 then (ltv (x2 + (1 : Int32)) fun x2_2 => k_2 x1 x2_2 M) else (gd (inb x4 6) (gd (inb (((10 : Int32) * x2) + (M.1 39 (ix x4))) 60) (ltv (x3 + ((4 : Int32) * (M.1 43 (ix (((10 : Int32) * x2) + (M.1 39 (ix x4))))))) fun x3_5 => gd (inb (((6 : Int32) * x2) + x4) 36) (ltv (wI M 42 (ix (((6 : Int32) * x2) + x4)) x3_5) fun M_7 => ltv (x4 + (1 : Int32)) fun x4_8 => k_15 x1 x2 x3_5 x4_8 M_7)))))
set_option maxHeartbeats 4000000 in
set_option maxRecDepth 100000 in
theorem gb_X6_layWider_34_15  {k_2 : Int32 → Int32 → Mm → Option Mm} {k_15 : Int32 → Int32 → Int32 → Int32 → Mm → Option Mm} {x1 : Int32} {x2 : Int32} {x3 : Int32} {x4 : Int32} {M : Mm} {M' : Mm} (hE : Has shC (eH E)) (C : Cx RX6 cX6_layWider 5 p (rmD 1) s m args meth c E) (hr : meth.sig.returnType = none) (hk_2 : ∀ (x1 : Int32) (x2 : Int32) (M : Mm), k_2 x1 x2 M = some M' → G p l e (rmD 1) s m args below meth c E 5 0 0 (QR below args s E 0 0 none M') 2 [(0, .ref (eA E 34)), (1, .int x1), (2, .int x2)] [] M) (hk_15 : ∀ (x1 : Int32) (x2 : Int32) (x3 : Int32) (x4 : Int32) (M : Mm), k_15 x1 x2 x3 x4 M = some M' → G p l e (rmD 1) s m args below meth c E 5 0 0 (QR below args s E 0 0 none M') 15 [(0, .ref (eA E 34)), (1, .int x1), (2, .int x2), (3, .int x3), (4, .int x4)] [] M) (h : bb_X6_layWider_34_15 k_2 k_15 x1 x2 x3 x4 M = some M') : G p l e (rmD 1) s m args below meth c E 5 0 0 (QR below args s E 0 0 none M') 15 [(0, .ref (eA E 34)), (1, .int x1), (2, .int x2), (3, .int x3), (4, .int x4)] [] M := by
  unfold bb_X6_layWider_34_15 at h
  refine G.iload C 4 dX6_layWider_15 rfl ?_
  refine G.iload_n C 1 dX6_layWider_17 rfl rfl ?_
  refine G.icmp_ge (tgt := 69) C dX6_layWider_18 (by decide) (fun hc => ?_) (fun hc => ?_)
  · have h := it_t h hc
    obtain ⟨x2_1, ex2_1, h⟩ := ltv_ex h
    refine G.iinc (L' := [(2, .int x2_1), (0, .ref (eA E 34)), (1, .int x1), (3, .int x3), (4, .int x4)]) C 2 dX6_layWider_69 rfl (ex2_1.trans rfl) (by decide) rfl ?_
    refine G.goto (tgt := 2) C dX6_layWider_72 (by decide) ?_
    exact G.sub [1, 2, 0] rfl (hk_2 _ _ _  h)
  · have h := it_f h hc
    refine G.iload C 4 dX6_layWider_21 rfl ?_
    refine G.bipush (v := (6 : Int32)) C dX6_layWider_23 (by decide) ?_
    refine G.icmp_ge (tgt := 69) C dX6_layWider_25 (by decide) (fun hc => ?_) (fun hc => ?_)
    · have h := it_t h hc
      obtain ⟨x2_2, ex2_2, h⟩ := ltv_ex h
      refine G.iinc (L' := [(2, .int x2_2), (0, .ref (eA E 34)), (1, .int x1), (3, .int x3), (4, .int x4)]) C 2 dX6_layWider_69 rfl (ex2_2.trans rfl) (by decide) rfl ?_
      refine G.goto (tgt := 2) C dX6_layWider_72 (by decide) ?_
      exact G.sub [1, 2, 0] rfl (hk_2 _ _ _  h)
    · have h := it_f h hc
      refine G.iload_n C 3 dX6_layWider_28 rfl rfl ?_
      refine G.iconst (v := (4 : Int32)) C dX6_layWider_29 (by decide) ?_
      refine G.aload_n C 0 dX6_layWider_30 rfl rfl ?_
      refine G.getR (k := 10) C k_X6 (sc_34 hE) rfl (by decide) tg_306 dX6_layWider_31 ?_
      refine G.bipush (v := (10 : Int32)) C dX6_layWider_34 (by decide) ?_
      refine G.iload_n C 2 dX6_layWider_36 rfl rfl ?_
      refine G.imul C dX6_layWider_37 ?_
      refine G.aload_n C 0 dX6_layWider_38 rfl rfl ?_
      refine G.getR (k := 6) C k_X6 (sc_34 hE) rfl (by decide) tg_302 dX6_layWider_39 ?_
      refine G.iload C 4 dX6_layWider_42 rfl ?_
      obtain ⟨hg_3, h⟩ := gd_ex h
      refine G.aI (j := ix x4) C (sc_39 hE) hg_3 rfl dX6_layWider_44 ?_
      refine G.iadd C dX6_layWider_45 ?_
      obtain ⟨hg_4, h⟩ := gd_ex h
      refine G.aI (j := ix (((10 : Int32) * x2) + (M.1 39 (ix x4)))) C (sc_43 hE) hg_4 rfl dX6_layWider_46 ?_
      refine G.imul C dX6_layWider_47 ?_
      refine G.iadd C dX6_layWider_48 ?_
      obtain ⟨x3_5, ex3_5, h⟩ := ltv_ex h
      refine G.istore_n (L' := [(3, .int x3_5), (0, .ref (eA E 34)), (1, .int x1), (2, .int x2), (4, .int x4)]) C dX6_layWider_49 rfl ex3_5 (by decide) rfl ?_
      refine G.aload_n C 1 dX6_layWider_50 rfl rfl ?_
      refine G.getR (k := 9) C k_X6 (sc_34 hE) rfl (by decide) tg_305 dX6_layWider_51 ?_
      refine G.bipush (v := (6 : Int32)) C dX6_layWider_54 (by decide) ?_
      refine G.iload_n C 3 dX6_layWider_56 rfl rfl ?_
      refine G.imul C dX6_layWider_57 ?_
      refine G.iload C 4 dX6_layWider_58 rfl ?_
      refine G.iadd C dX6_layWider_60 ?_
      refine G.iload_n C 0 dX6_layWider_61 rfl rfl ?_
      obtain ⟨hg_6, h⟩ := gd_ex h
      obtain ⟨M_7, eM_7, h⟩ := ltv_ex h
      refine G.sI (j := (ix (((6 : Int32) * x2) + x4))) C (sc_42 hE) hg_6 rfl dX6_layWider_62 eM_7 ?_
      obtain ⟨x4_8, ex4_8, h⟩ := ltv_ex h
      refine G.iinc (L' := [(4, .int x4_8), (3, .int x3_5), (0, .ref (eA E 34)), (1, .int x1), (2, .int x2)]) C 4 dX6_layWider_63 rfl (ex4_8.trans rfl) (by decide) rfl ?_
      refine G.goto (tgt := 15) C dX6_layWider_66 (by decide) ?_
      exact G.sub [2, 3, 4, 1, 0] rfl (hk_15 _ _ _ _ _  h)
def b_X6_layWider_34_15 (k_2 : Int32 → Int32 → Mm → Option Mm) : Nat → Int32 → Int32 → Int32 → Int32 → Mm → Option Mm
  | 0, _, _, _, _, _ => none
  | n + 1, x1, x2, x3, x4, M => bb_X6_layWider_34_15 k_2 (b_X6_layWider_34_15 k_2 n) x1 x2 x3 x4 M
set_option maxHeartbeats 4000000 in
theorem g_X6_layWider_34_15  {k_2 : Int32 → Int32 → Mm → Option Mm} {n : Nat} {x1 : Int32} {x2 : Int32} {x3 : Int32} {x4 : Int32} {M : Mm} {M' : Mm} (hE : Has shC (eH E)) (C : Cx RX6 cX6_layWider 5 p (rmD 1) s m args meth c E) (hr : meth.sig.returnType = none) (hk_2 : ∀ (x1 : Int32) (x2 : Int32) (M : Mm), k_2 x1 x2 M = some M' → G p l e (rmD 1) s m args below meth c E 5 0 0 (QR below args s E 0 0 none M') 2 [(0, .ref (eA E 34)), (1, .int x1), (2, .int x2)] [] M) (h : b_X6_layWider_34_15 k_2 n x1 x2 x3 x4 M = some M') : G p l e (rmD 1) s m args below meth c E 5 0 0 (QR below args s E 0 0 none M') 15 [(0, .ref (eA E 34)), (1, .int x1), (2, .int x2), (3, .int x3), (4, .int x4)] [] M := by
  induction n generalizing x1 x2 x3 x4 M with
  | zero => cases h
  | succ n ih => exact gb_X6_layWider_34_15 hE C hr hk_2 (fun _ _ _ _ _ => ih)  h
def bb_X6_layWider_34_2 (k_2 : Int32 → Int32 → Mm → Option Mm) (x1 : Int32) (x2 : Int32) (M : Mm) : Option Mm := if (M.1 34 1) ≤ x2 then (some M) else (b_X6_layWider_34_15 k_2 FU x1 x2 (0 : Int32) (0 : Int32) M)
set_option maxHeartbeats 4000000 in
set_option maxRecDepth 100000 in
theorem gb_X6_layWider_34_2  {k_2 : Int32 → Int32 → Mm → Option Mm} {x1 : Int32} {x2 : Int32} {M : Mm} {M' : Mm} (hE : Has shC (eH E)) (C : Cx RX6 cX6_layWider 5 p (rmD 1) s m args meth c E) (hr : meth.sig.returnType = none) (hk_2 : ∀ (x1 : Int32) (x2 : Int32) (M : Mm), k_2 x1 x2 M = some M' → G p l e (rmD 1) s m args below meth c E 5 0 0 (QR below args s E 0 0 none M') 2 [(0, .ref (eA E 34)), (1, .int x1), (2, .int x2)] [] M) (h : bb_X6_layWider_34_2 k_2 x1 x2 M = some M') : G p l e (rmD 1) s m args below meth c E 5 0 0 (QR below args s E 0 0 none M') 2 [(0, .ref (eA E 34)), (1, .int x1), (2, .int x2)] [] M := by
  unfold bb_X6_layWider_34_2 at h
  refine G.iload_n C 2 dX6_layWider_2 rfl rfl ?_
  refine G.aload_n C 0 dX6_layWider_3 rfl rfl ?_
  refine G.getI (k := 1) C k_X6 (sc_34 hE) rfl (by decide) tg_297 dX6_layWider_4 ?_
  refine G.icmp_ge (tgt := 75) C dX6_layWider_7 (by decide) (fun hc => ?_) (fun hc => ?_)
  · have h := it_t h hc
    cases h
    exact G.vret C hr dX6_layWider_75
  · have h := it_f h hc
    refine G.iconst (v := (0 : Int32)) C dX6_layWider_10 (by decide) ?_
    refine G.istore_n (L' := [(3, .int (0 : Int32)), (0, .ref (eA E 34)), (1, .int x1), (2, .int x2)]) C dX6_layWider_11 rfl rfl (by decide) rfl ?_
    refine G.iconst (v := (0 : Int32)) C dX6_layWider_12 (by decide) ?_
    refine G.istore (L' := [(4, .int (0 : Int32)), (3, .int (0 : Int32)), (0, .ref (eA E 34)), (1, .int x1), (2, .int x2)]) C dX6_layWider_13 rfl (by decide) rfl ?_
    exact G.sub [2, 3, 4, 1, 0] rfl (g_X6_layWider_34_15 hE C hr hk_2  h)
def b_X6_layWider_34_2 : Nat → Int32 → Int32 → Mm → Option Mm
  | 0, _, _, _ => none
  | n + 1, x1, x2, M => bb_X6_layWider_34_2 (b_X6_layWider_34_2 n) x1 x2 M
set_option maxHeartbeats 4000000 in
theorem g_X6_layWider_34_2  {n : Nat} {x1 : Int32} {x2 : Int32} {M : Mm} {M' : Mm} (hE : Has shC (eH E)) (C : Cx RX6 cX6_layWider 5 p (rmD 1) s m args meth c E) (hr : meth.sig.returnType = none) (h : b_X6_layWider_34_2 n x1 x2 M = some M') : G p l e (rmD 1) s m args below meth c E 5 0 0 (QR below args s E 0 0 none M') 2 [(0, .ref (eA E 34)), (1, .int x1), (2, .int x2)] [] M := by
  induction n generalizing x1 x2 M with
  | zero => cases h
  | succ n ih => exact gb_X6_layWider_34_2 hE C hr (fun _ _ _ => ih)  h
def bb_X6_layWider_34_0 (x1 : Int32) (M : Mm) : Option Mm := b_X6_layWider_34_2 FU x1 (0 : Int32) M
set_option maxHeartbeats 4000000 in
set_option maxRecDepth 100000 in
theorem gb_X6_layWider_34_0  {x1 : Int32} {M : Mm} {M' : Mm} (hE : Has shC (eH E)) (C : Cx RX6 cX6_layWider 5 p (rmD 1) s m args meth c E) (hr : meth.sig.returnType = none) (h : bb_X6_layWider_34_0 x1 M = some M') : G p l e (rmD 1) s m args below meth c E 5 0 0 (QR below args s E 0 0 none M') 0 [(0, .ref (eA E 34)), (1, .int x1)] [] M := by
  unfold bb_X6_layWider_34_0 at h
  refine G.iconst (v := (0 : Int32)) C dX6_layWider_0 (by decide) ?_
  refine G.istore_n (L' := [(2, .int (0 : Int32)), (0, .ref (eA E 34)), (1, .int x1)]) C dX6_layWider_1 rfl rfl (by decide) rfl ?_
  exact G.sub [1, 2, 0] rfl (g_X6_layWider_34_2 hE C hr  h)
def f_X6_layWider_34 (x1 : Int32) (M : Mm) : Option Mm := bb_X6_layWider_34_0 x1 M
theorem s_X6_layWider_34 {l : Launch} {E : Ev} {x1 : Int32} {M : Mm} {M' : Mm} (hE : Has shC (eH E)) (h : f_X6_layWider_34 x1 M = some M') : MetA l yX6_layWider cX6_layWider 5 none 1 E [.ref (eA E 34), .int x1] M none M' := by
  refine MetA.of (by decide +kernel) (Nat.le_of_ble_eq_true rfl) ?_
  intro p e s m below meth c C hr hnm
  exact G.sub [0, 1] rfl (gb_X6_layWider_34_0 hE C hr  h)
def bb_X6_widen_34_2 (k_2 : Int32 → Int32 → Int32 → Mm → Option Mm) (x1 : Int32) (x2 : Int32) (x3 : Int32) (M : Mm) : Option Mm := if (M.1 34 1) ≤ x3 then (some M) else (if x1 < 0 then (some M) else (if (6 : Int32) ≤ x1 then (some M) else (gd (inb x3 6) (gd (inb x1 6) (gd (inb (((10 : Int32) * x3) + (M.1 39 (ix x1))) 60) (gd (inb x3 6) (ltv (wI M 41 (ix x3) ((M.1 41 (ix x3)) + (x2 * (M.1 43 (ix (((10 : Int32) * x3) + (M.1 39 (ix x1)))))))) fun M_5 => ltv (x3 + (1 : Int32)) fun x3_6 => k_2 x1 x2 x3_6 M_5)))))))
set_option maxHeartbeats 4000000 in
set_option maxRecDepth 100000 in
theorem gb_X6_widen_34_2  {k_2 : Int32 → Int32 → Int32 → Mm → Option Mm} {x1 : Int32} {x2 : Int32} {x3 : Int32} {M : Mm} {M' : Mm} (hE : Has shC (eH E)) (C : Cx RX6 cX6_widen 4 p (rmD 1) s m args meth c E) (hr : meth.sig.returnType = none) (hk_2 : ∀ (x1 : Int32) (x2 : Int32) (x3 : Int32) (M : Mm), k_2 x1 x2 x3 M = some M' → G p l e (rmD 1) s m args below meth c E 4 0 0 (QR below args s E 0 0 none M') 2 [(0, .ref (eA E 34)), (1, .int x1), (2, .int x2), (3, .int x3)] [] M) (h : bb_X6_widen_34_2 k_2 x1 x2 x3 M = some M') : G p l e (rmD 1) s m args below meth c E 4 0 0 (QR below args s E 0 0 none M') 2 [(0, .ref (eA E 34)), (1, .int x1), (2, .int x2), (3, .int x3)] [] M := by
  unfold bb_X6_widen_34_2 at h
  refine G.iload_n C 3 dX6_widen_2 rfl rfl ?_
  refine G.aload_n C 0 dX6_widen_3 rfl rfl ?_
  refine G.getI (k := 1) C k_X6 (sc_34 hE) rfl (by decide) tg_297 dX6_widen_4 ?_
  refine G.icmp_ge (tgt := 53) C dX6_widen_7 (by decide) (fun hc => ?_) (fun hc => ?_)
  · have h := it_t h hc
    cases h
    exact G.vret C hr dX6_widen_53
  · have h := it_f h hc
    refine G.iload_n C 1 dX6_widen_10 rfl rfl ?_
    refine G.if_lt (tgt := 53) C dX6_widen_11 (by decide) (fun hc => ?_) (fun hc => ?_)
    · have h := it_t h hc
      cases h
      exact G.vret C hr dX6_widen_53
    · have h := it_f h hc
      refine G.iload_n C 1 dX6_widen_14 rfl rfl ?_
      refine G.bipush (v := (6 : Int32)) C dX6_widen_15 (by decide) ?_
      refine G.icmp_ge (tgt := 53) C dX6_widen_17 (by decide) (fun hc => ?_) (fun hc => ?_)
      · have h := it_t h hc
        cases h
        exact G.vret C hr dX6_widen_53
      · have h := it_f h hc
        refine G.aload_n C 0 dX6_widen_20 rfl rfl ?_
        refine G.getR (k := 8) C k_X6 (sc_34 hE) rfl (by decide) tg_304 dX6_widen_21 ?_
        refine G.iload_n C 3 dX6_widen_24 rfl rfl ?_
        refine G.dup2_11 C dX6_widen_25 rfl rfl ?_
        obtain ⟨hg_1, h⟩ := gd_ex h
        refine G.aI (j := ix x3) C (sc_41 hE) hg_1 rfl dX6_widen_26 ?_
        refine G.iload_n C 2 dX6_widen_27 rfl rfl ?_
        refine G.aload_n C 0 dX6_widen_28 rfl rfl ?_
        refine G.getR (k := 10) C k_X6 (sc_34 hE) rfl (by decide) tg_306 dX6_widen_29 ?_
        refine G.bipush (v := (10 : Int32)) C dX6_widen_32 (by decide) ?_
        refine G.iload_n C 3 dX6_widen_34 rfl rfl ?_
        refine G.imul C dX6_widen_35 ?_
        refine G.aload_n C 0 dX6_widen_36 rfl rfl ?_
        refine G.getR (k := 6) C k_X6 (sc_34 hE) rfl (by decide) tg_302 dX6_widen_37 ?_
        refine G.iload_n C 1 dX6_widen_40 rfl rfl ?_
        obtain ⟨hg_2, h⟩ := gd_ex h
        refine G.aI (j := ix x1) C (sc_39 hE) hg_2 rfl dX6_widen_41 ?_
        refine G.iadd C dX6_widen_42 ?_
        obtain ⟨hg_3, h⟩ := gd_ex h
        refine G.aI (j := ix (((10 : Int32) * x3) + (M.1 39 (ix x1)))) C (sc_43 hE) hg_3 rfl dX6_widen_43 ?_
        refine G.imul C dX6_widen_44 ?_
        refine G.iadd C dX6_widen_45 ?_
        obtain ⟨hg_4, h⟩ := gd_ex h
        obtain ⟨M_5, eM_5, h⟩ := ltv_ex h
        refine G.sI (j := (ix x3)) C (sc_41 hE) hg_4 rfl dX6_widen_46 eM_5 ?_
        obtain ⟨x3_6, ex3_6, h⟩ := ltv_ex h
        refine G.iinc (L' := [(3, .int x3_6), (0, .ref (eA E 34)), (1, .int x1), (2, .int x2)]) C 3 dX6_widen_47 rfl (ex3_6.trans rfl) (by decide) rfl ?_
        refine G.goto (tgt := 2) C dX6_widen_50 (by decide) ?_
        exact G.sub [1, 2, 3, 0] rfl (hk_2 _ _ _ _  h)
def b_X6_widen_34_2 : Nat → Int32 → Int32 → Int32 → Mm → Option Mm
  | 0, _, _, _, _ => none
  | n + 1, x1, x2, x3, M => bb_X6_widen_34_2 (b_X6_widen_34_2 n) x1 x2 x3 M
set_option maxHeartbeats 4000000 in
theorem g_X6_widen_34_2  {n : Nat} {x1 : Int32} {x2 : Int32} {x3 : Int32} {M : Mm} {M' : Mm} (hE : Has shC (eH E)) (C : Cx RX6 cX6_widen 4 p (rmD 1) s m args meth c E) (hr : meth.sig.returnType = none) (h : b_X6_widen_34_2 n x1 x2 x3 M = some M') : G p l e (rmD 1) s m args below meth c E 4 0 0 (QR below args s E 0 0 none M') 2 [(0, .ref (eA E 34)), (1, .int x1), (2, .int x2), (3, .int x3)] [] M := by
  induction n generalizing x1 x2 x3 M with
  | zero => cases h
  | succ n ih => exact gb_X6_widen_34_2 hE C hr (fun _ _ _ _ => ih)  h
def bb_X6_widen_34_0 (x1 : Int32) (x2 : Int32) (M : Mm) : Option Mm := b_X6_widen_34_2 FU x1 x2 (0 : Int32) M
set_option maxHeartbeats 4000000 in
set_option maxRecDepth 100000 in
theorem gb_X6_widen_34_0  {x1 : Int32} {x2 : Int32} {M : Mm} {M' : Mm} (hE : Has shC (eH E)) (C : Cx RX6 cX6_widen 4 p (rmD 1) s m args meth c E) (hr : meth.sig.returnType = none) (h : bb_X6_widen_34_0 x1 x2 M = some M') : G p l e (rmD 1) s m args below meth c E 4 0 0 (QR below args s E 0 0 none M') 0 [(0, .ref (eA E 34)), (1, .int x1), (2, .int x2)] [] M := by
  unfold bb_X6_widen_34_0 at h
  refine G.iconst (v := (0 : Int32)) C dX6_widen_0 (by decide) ?_
  refine G.istore_n (L' := [(3, .int (0 : Int32)), (0, .ref (eA E 34)), (1, .int x1), (2, .int x2)]) C dX6_widen_1 rfl rfl (by decide) rfl ?_
  exact G.sub [1, 2, 3, 0] rfl (g_X6_widen_34_2 hE C hr  h)
def f_X6_widen_34 (x1 : Int32) (x2 : Int32) (M : Mm) : Option Mm := bb_X6_widen_34_0 x1 x2 M
theorem s_X6_widen_34 {l : Launch} {E : Ev} {x1 : Int32} {x2 : Int32} {M : Mm} {M' : Mm} (hE : Has shC (eH E)) (h : f_X6_widen_34 x1 x2 M = some M') : MetA l yX6_widen cX6_widen 4 none 1 E [.ref (eA E 34), .int x1, .int x2] M none M' := by
  refine MetA.of (by decide +kernel) (Nat.le_of_ble_eq_true rfl) ?_
  intro p e s m below meth c C hr hnm
  exact G.sub [0, 1, 2] rfl (gb_X6_widen_34_0 hE C hr  h)
def bb_X6_seekEven_34_39 (rc : Int32 → Int32 → Mm → Option Mm) (k_39 : Int32 → Int32 → Int32 → Mm → Option Mm) (x1 : Int32) (x2 : Int32) (x4 : Int32) (M : Mm) : Option Mm := if (5 : Int32) ≤ x4 then (bd (f_X6_widen_34 x1 (-5 : Int32) M) fun M_6 => some M_6) else (gd (inb x1 6) (gd (inb (M.1 39 (ix x1)) 10) (bd (rc (x1 - (1 : Int32)) (x2 + (x4 * (powF (ix (M.1 39 (ix x1)))))) M) fun M_10 => bd (f_X6_widen_34 x1 (1 : Int32) M_10) fun M_12 => ltv (x4 + (1 : Int32)) fun x4_13 => k_39 x1 x2 x4_13 M_12)))
set_option maxHeartbeats 4000000 in
set_option maxRecDepth 100000 in
theorem gb_X6_seekEven_34_39 {dd : Nat}  {rc : Int32 → Int32 → Mm → Option Mm} {k_39 : Int32 → Int32 → Int32 → Mm → Option Mm} {x1 : Int32} {x2 : Int32} {x4 : Int32} {M : Mm} {M' : Mm} (hE : Has shC (eH E)) (C : Cx RX6 cX6_seekEven 5 p (rmD (3 + dd)) s m args meth c E) (hr : meth.sig.returnType = none) (hrc : ∀ (x1 : Int32) (x2 : Int32) (M : Mm) (M' : Mm), rc x1 x2 M = some M' → MetA l yX6_seekEven cX6_seekEven 5 none (2 + dd) E [.ref (eA E 34), .int x1, .int x2] M none M') (hk_39 : ∀ (x1 : Int32) (x2 : Int32) (x4 : Int32) (M : Mm), k_39 x1 x2 x4 M = some M' → G p l e (rmD (3 + dd)) s m args below meth c E 5 0 0 (QR below args s E 0 0 none M') 39 [(0, .ref (eA E 34)), (1, .int x1), (2, .int x2), (4, .int x4)] [] M) (h : bb_X6_seekEven_34_39 rc k_39 x1 x2 x4 M = some M') : G p l e (rmD (3 + dd)) s m args below meth c E 5 0 0 (QR below args s E 0 0 none M') 39 [(0, .ref (eA E 34)), (1, .int x1), (2, .int x2), (4, .int x4)] [] M := by
  unfold bb_X6_seekEven_34_39 at h
  refine G.iload C 3 dX6_seekEven_39 rfl ?_
  refine G.iconst (v := (5 : Int32)) C dX6_seekEven_41 (by decide) ?_
  refine G.icmp_ge (tgt := 79) C dX6_seekEven_42 (by decide) (fun hc => ?_) (fun hc => ?_)
  · have h := it_t h hc
    refine G.aload_n C 0 dX6_seekEven_79 rfl rfl ?_
    refine G.iload_n C 1 dX6_seekEven_80 rfl rfl ?_
    refine G.bipush (v := (-5 : Int32)) C dX6_seekEven_81 (by decide) ?_
    obtain ⟨M_6, hv_5, h⟩ := bd_ex h
    refine G.callV (rest := []) C (s_X6_widen_34 hE  hv_5) ⟨tg_1277, tg_96, ok_X6_widen, (show 1 + 1 ≤ 3 + dd by omega), (show 8 + (4 + 11) + 64 * 1 ≤ 64 * (3 + dd) by omega)⟩ tg_1274 tg_1276 tg_39 (sc_34 hE) rfl rfl (Nat.le_of_ble_eq_true rfl) dX6_seekEven_83 ⟨Nat.le_refl 0, Nat.le_refl 0⟩ ?_
    cases h
    exact G.vret C hr dX6_seekEven_86
  · have h := it_f h hc
    refine G.aload_n C 0 dX6_seekEven_45 rfl rfl ?_
    refine G.iload_n C 1 dX6_seekEven_46 rfl rfl ?_
    refine G.iconst (v := (1 : Int32)) C dX6_seekEven_47 (by decide) ?_
    refine G.isub C dX6_seekEven_48 ?_
    refine G.iload_n C 2 dX6_seekEven_49 rfl rfl ?_
    refine G.iload C 3 dX6_seekEven_50 rfl ?_
    refine G.pow C tg_1219 dX6_seekEven_52 ?_
    refine G.aload_n C 0 dX6_seekEven_55 rfl rfl ?_
    refine G.getR (k := 6) C k_X6 (sc_34 hE) rfl (by decide) tg_302 dX6_seekEven_56 ?_
    refine G.iload_n C 1 dX6_seekEven_59 rfl rfl ?_
    obtain ⟨hg_7, h⟩ := gd_ex h
    refine G.aI (j := ix x1) C (sc_39 hE) hg_7 rfl dX6_seekEven_60 ?_
    obtain ⟨hg_8, h⟩ := gd_ex h
    refine G.powld C hg_8 dX6_seekEven_61 ?_
    refine G.imul C dX6_seekEven_62 ?_
    refine G.iadd C dX6_seekEven_63 ?_
    obtain ⟨M_10, hv_9, h⟩ := bd_ex h
    refine G.callS (rest := []) C (hrc _ _ _ _  hv_9) ⟨tg_1273, tg_96, ok_X6_seekEven, (show 2 + dd + 1 ≤ 3 + dd by omega), (show 8 + (5 + 11) + 64 * (2 + dd) ≤ 64 * (3 + dd) by omega)⟩ tg_1271 tg_1272 rfl (Nat.le_of_ble_eq_true rfl) dX6_seekEven_64 ⟨Nat.le_refl 0, Nat.le_refl 0⟩ ?_
    refine G.aload_n C 0 dX6_seekEven_67 rfl rfl ?_
    refine G.iload_n C 1 dX6_seekEven_68 rfl rfl ?_
    refine G.iconst (v := (1 : Int32)) C dX6_seekEven_69 (by decide) ?_
    obtain ⟨M_12, hv_11, h⟩ := bd_ex h
    refine G.callV (rest := []) C (s_X6_widen_34 hE  hv_11) ⟨tg_1277, tg_96, ok_X6_widen, (show 1 + 1 ≤ 3 + dd by omega), (show 8 + (4 + 11) + 64 * 1 ≤ 64 * (3 + dd) by omega)⟩ tg_1274 tg_1276 tg_39 (sc_34 hE) rfl rfl (Nat.le_of_ble_eq_true rfl) dX6_seekEven_70 ⟨Nat.le_refl 0, Nat.le_refl 0⟩ ?_
    obtain ⟨x4_13, ex4_13, h⟩ := ltv_ex h
    refine G.iinc (L' := [(4, .int x4_13), (0, .ref (eA E 34)), (1, .int x1), (2, .int x2)]) C 3 dX6_seekEven_73 rfl (ex4_13.trans rfl) (by decide) rfl ?_
    refine G.goto (tgt := 39) C dX6_seekEven_76 (by decide) ?_
    exact G.sub [1, 2, 3, 0] rfl (hk_39 _ _ _ _  h)
def b_X6_seekEven_34_39 (rc : Int32 → Int32 → Mm → Option Mm) : Nat → Int32 → Int32 → Int32 → Mm → Option Mm
  | 0, _, _, _, _ => none
  | n + 1, x1, x2, x4, M => bb_X6_seekEven_34_39 rc (b_X6_seekEven_34_39 rc n) x1 x2 x4 M
set_option maxHeartbeats 4000000 in
theorem g_X6_seekEven_34_39 {dd : Nat}  {rc : Int32 → Int32 → Mm → Option Mm} {n : Nat} {x1 : Int32} {x2 : Int32} {x4 : Int32} {M : Mm} {M' : Mm} (hE : Has shC (eH E)) (C : Cx RX6 cX6_seekEven 5 p (rmD (3 + dd)) s m args meth c E) (hr : meth.sig.returnType = none) (hrc : ∀ (x1 : Int32) (x2 : Int32) (M : Mm) (M' : Mm), rc x1 x2 M = some M' → MetA l yX6_seekEven cX6_seekEven 5 none (2 + dd) E [.ref (eA E 34), .int x1, .int x2] M none M') (h : b_X6_seekEven_34_39 rc n x1 x2 x4 M = some M') : G p l e (rmD (3 + dd)) s m args below meth c E 5 0 0 (QR below args s E 0 0 none M') 39 [(0, .ref (eA E 34)), (1, .int x1), (2, .int x2), (4, .int x4)] [] M := by
  induction n generalizing x1 x2 x4 M with
  | zero => cases h
  | succ n ih => exact gb_X6_seekEven_34_39 hE C hr hrc (fun _ _ _ _ => ih)  h
def bb_X6_seekEven_34_0 (rc : Int32 → Int32 → Mm → Option Mm) (x1 : Int32) (x2 : Int32) (M : Mm) : Option Mm := bd (f_X6_unevenAtLeast_34 x1 M) fun v_2 => if (M.1 34 11) ≤ v_2 then (some M) else (if x1 < (6 : Int32) then (if 0 ≤ x1 then (b_X6_seekEven_34_39 rc FU x1 x2 (0 : Int32) M) else (ltv (wI M 34 11 v_2) fun M_3 => ltv (wI M_3 34 12 x2) fun M_4 => some M_4)) else (some M))
set_option maxHeartbeats 4000000 in
set_option maxRecDepth 100000 in
theorem gb_X6_seekEven_34_0 {dd : Nat}  {rc : Int32 → Int32 → Mm → Option Mm} {x1 : Int32} {x2 : Int32} {M : Mm} {M' : Mm} (hE : Has shC (eH E)) (C : Cx RX6 cX6_seekEven 5 p (rmD (3 + dd)) s m args meth c E) (hr : meth.sig.returnType = none) (hrc : ∀ (x1 : Int32) (x2 : Int32) (M : Mm) (M' : Mm), rc x1 x2 M = some M' → MetA l yX6_seekEven cX6_seekEven 5 none (2 + dd) E [.ref (eA E 34), .int x1, .int x2] M none M') (h : bb_X6_seekEven_34_0 rc x1 x2 M = some M') : G p l e (rmD (3 + dd)) s m args below meth c E 5 0 0 (QR below args s E 0 0 none M') 0 [(0, .ref (eA E 34)), (1, .int x1), (2, .int x2)] [] M := by
  unfold bb_X6_seekEven_34_0 at h
  refine G.aload_n C 0 dX6_seekEven_0 rfl rfl ?_
  refine G.iload_n C 1 dX6_seekEven_1 rfl rfl ?_
  obtain ⟨v_2, hv_1, h⟩ := bd_ex h
  refine G.callV (rest := []) C (s_X6_unevenAtLeast_34 hE  hv_1) ⟨tg_1242, tg_96, ok_X6_unevenAtLeast, (show 2 + 1 ≤ 3 + dd by omega), (show 8 + (6 + 11) + 64 * 2 ≤ 64 * (3 + dd) by omega)⟩ tg_1239 tg_1241 tg_35 (sc_34 hE) rfl rfl (Nat.le_of_ble_eq_true rfl) dX6_seekEven_2 ⟨Nat.le_refl 0, Nat.le_refl 0⟩ ?_
  refine G.istore_n (L' := [(3, .int v_2), (0, .ref (eA E 34)), (1, .int x1), (2, .int x2)]) C dX6_seekEven_5 rfl rfl (by decide) rfl ?_
  refine G.iload_n C 0 dX6_seekEven_6 rfl rfl ?_
  refine G.aload_n C 1 dX6_seekEven_7 rfl rfl ?_
  refine G.getI (k := 11) C k_X6 (sc_34 hE) rfl (by decide) tg_307 dX6_seekEven_8 ?_
  refine G.icmp_ge (tgt := 20) C dX6_seekEven_11 (by decide) (fun hc => ?_) (fun hc => ?_)
  · have h := it_t h hc
    cases h
    exact G.vret C hr dX6_seekEven_20
  · have h := it_f h hc
    refine G.iload_n C 2 dX6_seekEven_14 rfl rfl ?_
    refine G.bipush (v := (6 : Int32)) C dX6_seekEven_15 (by decide) ?_
    refine G.icmp_lt (tgt := 21) C dX6_seekEven_17 (by decide) (fun hc => ?_) (fun hc => ?_)
    · have h := it_t h hc
      refine G.iload_n C 2 dX6_seekEven_21 rfl rfl ?_
      refine G.if_ge (tgt := 36) C dX6_seekEven_22 (by decide) (fun hc => ?_) (fun hc => ?_)
      · have h := it_t h hc
        refine G.iconst (v := (0 : Int32)) C dX6_seekEven_36 (by decide) ?_
        refine G.istore (L' := [(4, .int (0 : Int32)), (3, .int v_2), (0, .ref (eA E 34)), (1, .int x1), (2, .int x2)]) C dX6_seekEven_37 rfl (by decide) rfl ?_
        exact G.sub [2, 3, 4, 0] rfl (g_X6_seekEven_34_39 hE C hr hrc  h)
      · have h := it_f h hc
        refine G.aload_n C 1 dX6_seekEven_25 rfl rfl ?_
        refine G.iload_n C 0 dX6_seekEven_26 rfl rfl ?_
        obtain ⟨M_3, eM_3, h⟩ := ltv_ex h
        refine G.putI (k := 11) C k_X6 (sc_34 hE) rfl (by decide) tg_307 rfl rfl dX6_seekEven_27 eM_3 ?_
        refine G.aload_n C 1 dX6_seekEven_30 rfl rfl ?_
        refine G.iload_n C 3 dX6_seekEven_31 rfl rfl ?_
        obtain ⟨M_4, eM_4, h⟩ := ltv_ex h
        refine G.putI (k := 12) C k_X6 (sc_34 hE) rfl (by decide) tg_308 rfl rfl dX6_seekEven_32 eM_4 ?_
        cases h
        exact G.vret C hr dX6_seekEven_35
    · have h := it_f h hc
      cases h
      exact G.vret C hr dX6_seekEven_20
def fr_X6_seekEven_34 : Nat → Int32 → Int32 → Mm → Option Mm
  | 0, _, _, _ => none
  | n + 1, x1, x2, M => (bb_X6_seekEven_34_0 (fr_X6_seekEven_34 n) x1 x2 M)
theorem sr_X6_seekEven_34 {l : Launch} {E : Ev} (hE : Has shC (eH E)) (n : Nat) : ∀ (x1 : Int32) (x2 : Int32) (M : Mm) (M' : Mm), fr_X6_seekEven_34 n x1 x2 M = some M' → MetA l yX6_seekEven cX6_seekEven 5 none (2 + n) E [.ref (eA E 34), .int x1, .int x2] M none M' := by
  induction n with
  | zero => intros; rename_i h; cases h
  | succ n ih =>
    intro x1 x2 M  M'  h
    refine MetA.of (by decide +kernel) (Nat.le_of_ble_eq_true rfl) ?_
    intro p e s m below meth c C hr hnm
    rw [show 2 + (n + 1) = 3 + n by omega] at C ⊢
    exact G.sub [0, 1, 2] rfl (gb_X6_seekEven_34_0 (dd := n) hE C hr ih  h)
def f_X6_seekEven_34 (x1 : Int32) (x2 : Int32) (M : Mm) : Option Mm := fr_X6_seekEven_34 10 x1 x2 M
theorem s_X6_seekEven_34 {l : Launch} {E : Ev} {x1 : Int32} {x2 : Int32} {M : Mm} {M' : Mm} (hE : Has shC (eH E)) (h : f_X6_seekEven_34 x1 x2 M = some M') : MetA l yX6_seekEven cX6_seekEven 5 none 12 E [.ref (eA E 34), .int x1, .int x2] M none M' := sr_X6_seekEven_34 hE 10 _ _ _ _  h
def bb_X6_findEvenRoom_34_0 (x1 : Int32) (M : Mm) : Option (Int32 × Mm) := bd2 (f_X6_listFree_34 M) fun v_3 M_2 => if v_3 ≤ (6 : Int32) then (bd (f_X6_layWords_34 x1 (0 : Int32) M_2) fun M_5 => bd (f_X6_layWider_34 v_3 M_5) fun M_7 => ltv (wI M_7 34 11 (1000000 : Int32)) fun M_8 => ltv (wI M_8 34 12 (0 : Int32)) fun M_9 => bd (f_X6_seekEven_34 (v_3 - (1 : Int32)) (0 : Int32) M_9) fun M_11 => some (M_11.1 34 12, M_11)) else (some ((-1 : Int32), M_2))
set_option maxHeartbeats 4000000 in
set_option maxRecDepth 100000 in
theorem gb_X6_findEvenRoom_34_0  {x1 : Int32} {M : Mm} {v : Int32} {M' : Mm} (hE : Has shC (eH E)) (C : Cx RX6 cX6_findEvenRoom 3 p (rmD 13) s m args meth c E) (hr : meth.sig.returnType = (some .int)) (h : bb_X6_findEvenRoom_34_0 x1 M = some (v, M')) : G p l e (rmD 13) s m args below meth c E 3 0 0 (QR below args s E 0 0 (some (.int v)) M') 0 [(0, .ref (eA E 34)), (1, .int x1)] [] M := by
  unfold bb_X6_findEvenRoom_34_0 at h
  refine G.aload_n C 0 dX6_findEvenRoom_0 rfl rfl ?_
  obtain ⟨v_3, M_2, hv_1, h⟩ := bd2_ex h
  refine G.callV (rest := []) C (s_X6_listFree_34 hE  hv_1) ⟨tg_1266, tg_96, ok_X6_listFree, Nat.le_of_ble_eq_true rfl, Nat.le_of_ble_eq_true rfl⟩ tg_1263 tg_1265 tg_37 (sc_34 hE) rfl rfl (Nat.le_of_ble_eq_true rfl) dX6_findEvenRoom_1 ⟨Nat.le_refl 0, Nat.le_refl 0⟩ ?_
  refine G.istore_n (L' := [(2, .int v_3), (0, .ref (eA E 34)), (1, .int x1)]) C dX6_findEvenRoom_4 rfl rfl (by decide) rfl ?_
  refine G.iload_n C 0 dX6_findEvenRoom_5 rfl rfl ?_
  refine G.bipush (v := (6 : Int32)) C dX6_findEvenRoom_6 (by decide) ?_
  refine G.icmp_le (tgt := 13) C dX6_findEvenRoom_8 (by decide) (fun hc => ?_) (fun hc => ?_)
  · have h := it_t h hc
    refine G.aload_n C 1 dX6_findEvenRoom_13 rfl rfl ?_
    refine G.iload_n C 2 dX6_findEvenRoom_14 rfl rfl ?_
    refine G.iconst (v := (0 : Int32)) C dX6_findEvenRoom_15 (by decide) ?_
    obtain ⟨M_5, hv_4, h⟩ := bd_ex h
    refine G.callV (rest := []) C (s_X6_layWords_34 hE  hv_4) ⟨tg_1238, tg_96, ok_X6_layWords, Nat.le_of_ble_eq_true rfl, Nat.le_of_ble_eq_true rfl⟩ tg_1235 tg_1237 tg_34 (sc_34 hE) rfl rfl (Nat.le_of_ble_eq_true rfl) dX6_findEvenRoom_16 ⟨Nat.le_refl 0, Nat.le_refl 0⟩ ?_
    refine G.aload_n C 1 dX6_findEvenRoom_19 rfl rfl ?_
    refine G.iload_n C 0 dX6_findEvenRoom_20 rfl rfl ?_
    obtain ⟨M_7, hv_6, h⟩ := bd_ex h
    refine G.callV (rest := []) C (s_X6_layWider_34 hE  hv_6) ⟨tg_1270, tg_96, ok_X6_layWider, Nat.le_of_ble_eq_true rfl, Nat.le_of_ble_eq_true rfl⟩ tg_1267 tg_1269 tg_38 (sc_34 hE) rfl rfl (Nat.le_of_ble_eq_true rfl) dX6_findEvenRoom_21 ⟨Nat.le_refl 0, Nat.le_refl 0⟩ ?_
    refine G.aload_n C 1 dX6_findEvenRoom_24 rfl rfl ?_
    refine G.ldc C tg_1243 dX6_findEvenRoom_25 ?_
    obtain ⟨M_8, eM_8, h⟩ := ltv_ex h
    refine G.putI (k := 11) C k_X6 (sc_34 hE) rfl (by decide) tg_307 rfl rfl dX6_findEvenRoom_27 eM_8 ?_
    refine G.aload_n C 1 dX6_findEvenRoom_30 rfl rfl ?_
    refine G.iconst (v := (0 : Int32)) C dX6_findEvenRoom_31 (by decide) ?_
    obtain ⟨M_9, eM_9, h⟩ := ltv_ex h
    refine G.putI (k := 12) C k_X6 (sc_34 hE) rfl (by decide) tg_308 rfl rfl dX6_findEvenRoom_32 eM_9 ?_
    refine G.aload_n C 1 dX6_findEvenRoom_35 rfl rfl ?_
    refine G.iload_n C 0 dX6_findEvenRoom_36 rfl rfl ?_
    refine G.iconst (v := (1 : Int32)) C dX6_findEvenRoom_37 (by decide) ?_
    refine G.isub C dX6_findEvenRoom_38 ?_
    refine G.iconst (v := (0 : Int32)) C dX6_findEvenRoom_39 (by decide) ?_
    obtain ⟨M_11, hv_10, h⟩ := bd_ex h
    refine G.callS (rest := []) C (s_X6_seekEven_34 hE  hv_10) ⟨tg_1273, tg_96, ok_X6_seekEven, Nat.le_of_ble_eq_true rfl, Nat.le_of_ble_eq_true rfl⟩ tg_1271 tg_1272 rfl (Nat.le_of_ble_eq_true rfl) dX6_findEvenRoom_40 ⟨Nat.le_refl 0, Nat.le_refl 0⟩ ?_
    refine G.aload_n C 1 dX6_findEvenRoom_43 rfl rfl ?_
    refine G.getI (k := 12) C k_X6 (sc_34 hE) rfl (by decide) tg_308 dX6_findEvenRoom_44 ?_
    cases h
    exact G.iret C hr dX6_findEvenRoom_47
  · have h := it_f h hc
    refine G.iconst (v := (-1 : Int32)) C dX6_findEvenRoom_11 (by decide) ?_
    cases h
    exact G.iret C hr dX6_findEvenRoom_12
def f_X6_findEvenRoom_34 (x1 : Int32) (M : Mm) : Option (Int32 × Mm) := bb_X6_findEvenRoom_34_0 x1 M
theorem s_X6_findEvenRoom_34 {l : Launch} {E : Ev} {x1 : Int32} {M : Mm} {v : Int32} {M' : Mm} (hE : Has shC (eH E)) (h : f_X6_findEvenRoom_34 x1 M = some (v, M')) : MetA l yX6_findEvenRoom cX6_findEvenRoom 3 (some .int) 13 E [.ref (eA E 34), .int x1] M (some (.int v)) M' := by
  refine MetA.of (by decide +kernel) (Nat.le_of_ble_eq_true rfl) ?_
  intro p e s m below meth c C hr hnm
  exact G.sub [0, 1] rfl (gb_X6_findEvenRoom_34_0 hE C hr  h)
def bb_X6_evenRoom_34_0 (x1 : Int32) (M : Mm) : Option (Int32 × Mm) := if x1 < 0 then (some ((-1 : Int32), M)) else (if x1 < (17 : Int32) then (gd (inb x1 17) (if (M.1 38 (ix x1)) = (-2 : Int32) then (bd2 (f_X6_findEvenRoom_34 x1 M) fun v_5 M_4 => gd (inb x1 17) (ltv (wI M_4 38 (ix x1) v_5) fun M_7 => gd (inb x1 17) (some (M_7.1 38 (ix x1), M_7)))) else (gd (inb x1 17) (some (M.1 38 (ix x1), M))))) else (some ((-1 : Int32), M)))
set_option maxHeartbeats 4000000 in
set_option maxRecDepth 100000 in
theorem gb_X6_evenRoom_34_0  {x1 : Int32} {M : Mm} {v : Int32} {M' : Mm} (hE : Has shC (eH E)) (C : Cx RX6 cX6_evenRoom 2 p (rmD 14) s m args meth c E) (hr : meth.sig.returnType = (some .int)) (h : bb_X6_evenRoom_34_0 x1 M = some (v, M')) : G p l e (rmD 14) s m args below meth c E 2 0 0 (QR below args s E 0 0 (some (.int v)) M') 0 [(0, .ref (eA E 34)), (1, .int x1)] [] M := by
  unfold bb_X6_evenRoom_34_0 at h
  refine G.iload_n C 1 dX6_evenRoom_0 rfl rfl ?_
  refine G.if_lt (tgt := 13) C dX6_evenRoom_1 (by decide) (fun hc => ?_) (fun hc => ?_)
  · have h := it_t h hc
    refine G.iconst (v := (-1 : Int32)) C dX6_evenRoom_13 (by decide) ?_
    cases h
    exact G.iret C hr dX6_evenRoom_14
  · have h := it_f h hc
    refine G.iload_n C 1 dX6_evenRoom_4 rfl rfl ?_
    refine G.aload_n C 0 dX6_evenRoom_5 rfl rfl ?_
    refine G.getR (k := 5) C k_X6 (sc_34 hE) rfl (by decide) tg_301 dX6_evenRoom_6 ?_
    refine G.alen (v := (17 : Int32)) C (sc_38 hE) rfl (by decide) dX6_evenRoom_9 ?_
    refine G.icmp_lt (tgt := 15) C dX6_evenRoom_10 (by decide) (fun hc => ?_) (fun hc => ?_)
    · have h := it_t h hc
      refine G.aload_n C 0 dX6_evenRoom_15 rfl rfl ?_
      refine G.getR (k := 5) C k_X6 (sc_34 hE) rfl (by decide) tg_301 dX6_evenRoom_16 ?_
      refine G.iload_n C 1 dX6_evenRoom_19 rfl rfl ?_
      obtain ⟨hg_1, h⟩ := gd_ex h
      refine G.aI (j := ix x1) C (sc_38 hE) hg_1 rfl dX6_evenRoom_20 ?_
      refine G.bipush (v := (-2 : Int32)) C dX6_evenRoom_21 (by decide) ?_
      refine G.icmp_ne (tgt := 37) C dX6_evenRoom_23 (by decide) (fun hc => ?_) (fun hc => ?_)
      · have h := it_f h hc
        refine G.aload_n C 0 dX6_evenRoom_37 rfl rfl ?_
        refine G.getR (k := 5) C k_X6 (sc_34 hE) rfl (by decide) tg_301 dX6_evenRoom_38 ?_
        refine G.iload_n C 1 dX6_evenRoom_41 rfl rfl ?_
        obtain ⟨hg_2, h⟩ := gd_ex h
        refine G.aI (j := ix x1) C (sc_38 hE) hg_2 rfl dX6_evenRoom_42 ?_
        cases h
        exact G.iret C hr dX6_evenRoom_43
      · have h := it_t h hc
        refine G.aload_n C 0 dX6_evenRoom_26 rfl rfl ?_
        refine G.getR (k := 5) C k_X6 (sc_34 hE) rfl (by decide) tg_301 dX6_evenRoom_27 ?_
        refine G.iload_n C 1 dX6_evenRoom_30 rfl rfl ?_
        refine G.aload_n C 0 dX6_evenRoom_31 rfl rfl ?_
        refine G.iload_n C 1 dX6_evenRoom_32 rfl rfl ?_
        obtain ⟨v_5, M_4, hv_3, h⟩ := bd2_ex h
        refine G.callV (rest := [.int x1, .ref (eA E 38)]) C (s_X6_findEvenRoom_34 hE  hv_3) ⟨tg_1262, tg_96, ok_X6_findEvenRoom, Nat.le_of_ble_eq_true rfl, Nat.le_of_ble_eq_true rfl⟩ tg_1259 tg_1261 tg_36 (sc_34 hE) rfl rfl (Nat.le_of_ble_eq_true rfl) dX6_evenRoom_33 ⟨Nat.le_refl 0, Nat.le_refl 0⟩ ?_
        obtain ⟨hg_6, h⟩ := gd_ex h
        obtain ⟨M_7, eM_7, h⟩ := ltv_ex h
        refine G.sI (j := (ix x1)) C (sc_38 hE) hg_6 rfl dX6_evenRoom_36 eM_7 ?_
        refine G.aload_n C 0 dX6_evenRoom_37 rfl rfl ?_
        refine G.getR (k := 5) C k_X6 (sc_34 hE) rfl (by decide) tg_301 dX6_evenRoom_38 ?_
        refine G.iload_n C 1 dX6_evenRoom_41 rfl rfl ?_
        obtain ⟨hg_8, h⟩ := gd_ex h
        refine G.aI (j := ix x1) C (sc_38 hE) hg_8 rfl dX6_evenRoom_42 ?_
        cases h
        exact G.iret C hr dX6_evenRoom_43
    · have h := it_f h hc
      refine G.iconst (v := (-1 : Int32)) C dX6_evenRoom_13 (by decide) ?_
      cases h
      exact G.iret C hr dX6_evenRoom_14
def f_X6_evenRoom_34 (x1 : Int32) (M : Mm) : Option (Int32 × Mm) := bb_X6_evenRoom_34_0 x1 M
theorem s_X6_evenRoom_34 {l : Launch} {E : Ev} {x1 : Int32} {M : Mm} {v : Int32} {M' : Mm} (hE : Has shC (eH E)) (h : f_X6_evenRoom_34 x1 M = some (v, M')) : MetA l yX6_evenRoom cX6_evenRoom 2 (some .int) 14 E [.ref (eA E 34), .int x1] M (some (.int v)) M' := by
  refine MetA.of (by decide +kernel) (Nat.le_of_ble_eq_true rfl) ?_
  intro p e s m below meth c C hr hnm
  exact G.sub [0, 1] rfl (gb_X6_evenRoom_34_0 hE C hr  h)
def bb_X6_spreadNearest_34_30 (k_17 : Int32 → Int32 → Int32 → Int32 → Mm → Option Int32) (k_30 : Int32 → Int32 → Int32 → Int32 → Int32 → Int32 → Mm → Option Int32) (x1 : Int32) (x2 : Int32) (x3 : Int32) (x4 : Int32) (x5 : Int32) (x6 : Int32) (M : Mm) : Option Int32 := if (M.1 34 1) ≤ x6 then (gd (decide (¬ (M.1 34 1) = 0)) (ltv (if 0 ≤ ((x5 / (M.1 34 1)) - x1) then ((x5 / (M.1 34 1)) - x1) else 0 - ((x5 / (M.1 34 1)) - x1)) fun x6_2 => if x3 ≤ x6_2 then (ltv (x4 + (1 : Int32)) fun x4_3 => k_17 x1 x2 x3 x4_3 M) else (ltv (x4 + (1 : Int32)) fun x4_4 => k_17 x1 x4 x6_2 x4_4 M))) else (bd (f_X6_colourOf_34 x6 x4 (0 : Int32) M) fun v_6 => ltv (x5 + v_6) fun x5_7 => ltv (x6 + (1 : Int32)) fun x6_8 => k_30 x1 x2 x3 x4 x5_7 x6_8 M)
set_option maxHeartbeats 4000000 in
set_option maxRecDepth 100000 in
theorem gb_X6_spreadNearest_34_30  {k_17 : Int32 → Int32 → Int32 → Int32 → Mm → Option Int32} {k_30 : Int32 → Int32 → Int32 → Int32 → Int32 → Int32 → Mm → Option Int32} {x1 : Int32} {x2 : Int32} {x3 : Int32} {x4 : Int32} {x5 : Int32} {x6 : Int32} {M : Mm} {v : Int32} (hE : Has shC (eH E)) (C : Cx RX6 cX6_spreadNearest 7 p (rmD 4) s m args meth c E) (hr : meth.sig.returnType = (some .int)) (hk_17 : ∀ (x1 : Int32) (x2 : Int32) (x3 : Int32) (x4 : Int32) (M : Mm), k_17 x1 x2 x3 x4 M = some v → G p l e (rmD 4) s m args below meth c E 7 0 0 (QR below args s E 0 0 (some (.int v)) M) 17 [(0, .ref (eA E 34)), (1, .int x1), (2, .int x2), (3, .int x3), (4, .int x4)] [] M) (hk_30 : ∀ (x1 : Int32) (x2 : Int32) (x3 : Int32) (x4 : Int32) (x5 : Int32) (x6 : Int32) (M : Mm), k_30 x1 x2 x3 x4 x5 x6 M = some v → G p l e (rmD 4) s m args below meth c E 7 0 0 (QR below args s E 0 0 (some (.int v)) M) 30 [(0, .ref (eA E 34)), (1, .int x1), (2, .int x2), (3, .int x3), (4, .int x4), (5, .int x5), (6, .int x6)] [] M) (h : bb_X6_spreadNearest_34_30 k_17 k_30 x1 x2 x3 x4 x5 x6 M = some v) : G p l e (rmD 4) s m args below meth c E 7 0 0 (QR below args s E 0 0 (some (.int v)) M) 30 [(0, .ref (eA E 34)), (1, .int x1), (2, .int x2), (3, .int x3), (4, .int x4), (5, .int x5), (6, .int x6)] [] M := by
  unfold bb_X6_spreadNearest_34_30 at h
  refine G.iload C 6 dX6_spreadNearest_30 rfl ?_
  refine G.aload_n C 0 dX6_spreadNearest_32 rfl rfl ?_
  refine G.getI (k := 1) C k_X6 (sc_34 hE) rfl (by decide) tg_297 dX6_spreadNearest_33 ?_
  refine G.icmp_ge (tgt := 59) C dX6_spreadNearest_36 (by decide) (fun hc => ?_) (fun hc => ?_)
  · have h := it_t h hc
    refine G.iload C 5 dX6_spreadNearest_59 rfl ?_
    refine G.aload_n C 0 dX6_spreadNearest_61 rfl rfl ?_
    refine G.getI (k := 1) C k_X6 (sc_34 hE) rfl (by decide) tg_297 dX6_spreadNearest_62 ?_
    obtain ⟨hn_1, h⟩ := gd_ex h
    refine G.idiv C dX6_spreadNearest_65 (of_decide_eq_true hn_1) ?_
    refine G.iload_n C 1 dX6_spreadNearest_66 rfl rfl ?_
    refine G.isub C dX6_spreadNearest_67 ?_
    refine G.mabs (rest := []) C tg_1291 tg_1292 tg_100 tg_1293 ⟨Nat.le_of_ble_eq_true rfl, Nat.le_of_ble_eq_true rfl⟩ (Nat.le_of_ble_eq_true rfl) ⟨Nat.le_refl 0, Nat.le_refl 0⟩ dX6_spreadNearest_68 ?_
    obtain ⟨x6_2, ex6_2, h⟩ := ltv_ex h
    refine G.istore (L' := [(6, .int x6_2), (0, .ref (eA E 34)), (1, .int x1), (2, .int x2), (3, .int x3), (4, .int x4), (5, .int x5)]) C dX6_spreadNearest_71 ex6_2 (by decide) rfl ?_
    refine G.iload C 0 dX6_spreadNearest_73 rfl ?_
    refine G.iload_n C 4 dX6_spreadNearest_75 rfl rfl ?_
    refine G.icmp_ge (tgt := 85) C dX6_spreadNearest_76 (by decide) (fun hc => ?_) (fun hc => ?_)
    · have h := it_t h hc
      obtain ⟨x4_3, ex4_3, h⟩ := ltv_ex h
      refine G.iinc (L' := [(4, .int x4_3), (6, .int x6_2), (0, .ref (eA E 34)), (1, .int x1), (2, .int x2), (3, .int x3), (5, .int x5)]) C 5 dX6_spreadNearest_85 rfl (ex4_3.trans rfl) (by decide) rfl ?_
      refine G.goto (tgt := 17) C dX6_spreadNearest_88 (by decide) ?_
      exact G.sub [2, 3, 4, 5, 0] rfl (hk_17 _ _ _ _ _  h)
    · have h := it_f h hc
      refine G.iload C 0 dX6_spreadNearest_79 rfl ?_
      refine G.istore_n (L' := [(3, .int x6_2), (6, .int x6_2), (0, .ref (eA E 34)), (1, .int x1), (2, .int x2), (4, .int x4), (5, .int x5)]) C dX6_spreadNearest_81 rfl rfl (by decide) rfl ?_
      refine G.iload C 5 dX6_spreadNearest_82 rfl ?_
      refine G.istore_n (L' := [(2, .int x4), (3, .int x6_2), (6, .int x6_2), (0, .ref (eA E 34)), (1, .int x1), (4, .int x4), (5, .int x5)]) C dX6_spreadNearest_84 rfl rfl (by decide) rfl ?_
      obtain ⟨x4_4, ex4_4, h⟩ := ltv_ex h
      refine G.iinc (L' := [(4, .int x4_4), (2, .int x4), (3, .int x6_2), (6, .int x6_2), (0, .ref (eA E 34)), (1, .int x1), (5, .int x5)]) C 5 dX6_spreadNearest_85 rfl (ex4_4.trans rfl) (by decide) rfl ?_
      refine G.goto (tgt := 17) C dX6_spreadNearest_88 (by decide) ?_
      exact G.sub [4, 5, 1, 2, 0] rfl (hk_17 _ _ _ _ _  h)
  · have h := it_f h hc
    refine G.iload C 5 dX6_spreadNearest_39 rfl ?_
    refine G.aload_n C 0 dX6_spreadNearest_41 rfl rfl ?_
    refine G.iload C 6 dX6_spreadNearest_42 rfl ?_
    refine G.iload C 4 dX6_spreadNearest_44 rfl ?_
    refine G.iconst (v := (0 : Int32)) C dX6_spreadNearest_46 (by decide) ?_
    obtain ⟨v_6, hv_5, h⟩ := bd_ex h
    refine G.callV (rest := [.int x5]) C (s_X6_colourOf_34 hE  hv_5) ⟨tg_1209, tg_96, ok_X6_colourOf, Nat.le_of_ble_eq_true rfl, Nat.le_of_ble_eq_true rfl⟩ tg_1290 tg_1207 tg_1208 (sc_34 hE) rfl rfl (Nat.le_of_ble_eq_true rfl) dX6_spreadNearest_47 ⟨Nat.le_refl 0, Nat.le_refl 0⟩ ?_
    refine G.iadd C dX6_spreadNearest_50 ?_
    obtain ⟨x5_7, ex5_7, h⟩ := ltv_ex h
    refine G.istore (L' := [(5, .int x5_7), (0, .ref (eA E 34)), (1, .int x1), (2, .int x2), (3, .int x3), (4, .int x4), (6, .int x6)]) C dX6_spreadNearest_51 ex5_7 (by decide) rfl ?_
    obtain ⟨x6_8, ex6_8, h⟩ := ltv_ex h
    refine G.iinc (L' := [(6, .int x6_8), (5, .int x5_7), (0, .ref (eA E 34)), (1, .int x1), (2, .int x2), (3, .int x3), (4, .int x4)]) C 6 dX6_spreadNearest_53 rfl (ex6_8.trans rfl) (by decide) rfl ?_
    refine G.goto (tgt := 30) C dX6_spreadNearest_56 (by decide) ?_
    exact G.sub [2, 3, 4, 5, 6, 1, 0] rfl (hk_30 _ _ _ _ _ _ _  h)
def b_X6_spreadNearest_34_30 (k_17 : Int32 → Int32 → Int32 → Int32 → Mm → Option Int32) : Nat → Int32 → Int32 → Int32 → Int32 → Int32 → Int32 → Mm → Option Int32
  | 0, _, _, _, _, _, _, _ => none
  | n + 1, x1, x2, x3, x4, x5, x6, M => bb_X6_spreadNearest_34_30 k_17 (b_X6_spreadNearest_34_30 k_17 n) x1 x2 x3 x4 x5 x6 M
set_option maxHeartbeats 4000000 in
theorem g_X6_spreadNearest_34_30  {k_17 : Int32 → Int32 → Int32 → Int32 → Mm → Option Int32} {n : Nat} {x1 : Int32} {x2 : Int32} {x3 : Int32} {x4 : Int32} {x5 : Int32} {x6 : Int32} {M : Mm} {v : Int32} (hE : Has shC (eH E)) (C : Cx RX6 cX6_spreadNearest 7 p (rmD 4) s m args meth c E) (hr : meth.sig.returnType = (some .int)) (hk_17 : ∀ (x1 : Int32) (x2 : Int32) (x3 : Int32) (x4 : Int32) (M : Mm), k_17 x1 x2 x3 x4 M = some v → G p l e (rmD 4) s m args below meth c E 7 0 0 (QR below args s E 0 0 (some (.int v)) M) 17 [(0, .ref (eA E 34)), (1, .int x1), (2, .int x2), (3, .int x3), (4, .int x4)] [] M) (h : b_X6_spreadNearest_34_30 k_17 n x1 x2 x3 x4 x5 x6 M = some v) : G p l e (rmD 4) s m args below meth c E 7 0 0 (QR below args s E 0 0 (some (.int v)) M) 30 [(0, .ref (eA E 34)), (1, .int x1), (2, .int x2), (3, .int x3), (4, .int x4), (5, .int x5), (6, .int x6)] [] M := by
  induction n generalizing x1 x2 x3 x4 x5 x6 M with
  | zero => cases h
  | succ n ih => exact gb_X6_spreadNearest_34_30 hE C hr hk_17 (fun _ _ _ _ _ _ _ => ih)  h
def bb_X6_spreadNearest_34_17 (k_17 : Int32 → Int32 → Int32 → Int32 → Mm → Option Int32) (x1 : Int32) (x2 : Int32) (x3 : Int32) (x4 : Int32) (M : Mm) : Option Int32 := if (16 : Int32) < x4 then (some x2) else (b_X6_spreadNearest_34_30 k_17 FU x1 x2 x3 x4 (0 : Int32) (0 : Int32) M)
set_option maxHeartbeats 4000000 in
set_option maxRecDepth 100000 in
theorem gb_X6_spreadNearest_34_17  {k_17 : Int32 → Int32 → Int32 → Int32 → Mm → Option Int32} {x1 : Int32} {x2 : Int32} {x3 : Int32} {x4 : Int32} {M : Mm} {v : Int32} (hE : Has shC (eH E)) (C : Cx RX6 cX6_spreadNearest 7 p (rmD 4) s m args meth c E) (hr : meth.sig.returnType = (some .int)) (hk_17 : ∀ (x1 : Int32) (x2 : Int32) (x3 : Int32) (x4 : Int32) (M : Mm), k_17 x1 x2 x3 x4 M = some v → G p l e (rmD 4) s m args below meth c E 7 0 0 (QR below args s E 0 0 (some (.int v)) M) 17 [(0, .ref (eA E 34)), (1, .int x1), (2, .int x2), (3, .int x3), (4, .int x4)] [] M) (h : bb_X6_spreadNearest_34_17 k_17 x1 x2 x3 x4 M = some v) : G p l e (rmD 4) s m args below meth c E 7 0 0 (QR below args s E 0 0 (some (.int v)) M) 17 [(0, .ref (eA E 34)), (1, .int x1), (2, .int x2), (3, .int x3), (4, .int x4)] [] M := by
  unfold bb_X6_spreadNearest_34_17 at h
  refine G.iload C 4 dX6_spreadNearest_17 rfl ?_
  refine G.bipush (v := (16 : Int32)) C dX6_spreadNearest_19 (by decide) ?_
  refine G.icmp_gt (tgt := 91) C dX6_spreadNearest_21 (by decide) (fun hc => ?_) (fun hc => ?_)
  · have h := it_t h hc
    refine G.iload_n C 2 dX6_spreadNearest_91 rfl rfl ?_
    cases h
    exact G.iret C hr dX6_spreadNearest_92
  · have h := it_f h hc
    refine G.iconst (v := (0 : Int32)) C dX6_spreadNearest_24 (by decide) ?_
    refine G.istore (L' := [(5, .int (0 : Int32)), (0, .ref (eA E 34)), (1, .int x1), (2, .int x2), (3, .int x3), (4, .int x4)]) C dX6_spreadNearest_25 rfl (by decide) rfl ?_
    refine G.iconst (v := (0 : Int32)) C dX6_spreadNearest_27 (by decide) ?_
    refine G.istore (L' := [(6, .int (0 : Int32)), (5, .int (0 : Int32)), (0, .ref (eA E 34)), (1, .int x1), (2, .int x2), (3, .int x3), (4, .int x4)]) C dX6_spreadNearest_28 rfl (by decide) rfl ?_
    exact G.sub [2, 3, 4, 5, 6, 1, 0] rfl (g_X6_spreadNearest_34_30 hE C hr hk_17  h)
def b_X6_spreadNearest_34_17 : Nat → Int32 → Int32 → Int32 → Int32 → Mm → Option Int32
  | 0, _, _, _, _, _ => none
  | n + 1, x1, x2, x3, x4, M => bb_X6_spreadNearest_34_17 (b_X6_spreadNearest_34_17 n) x1 x2 x3 x4 M
set_option maxHeartbeats 4000000 in
theorem g_X6_spreadNearest_34_17  {n : Nat} {x1 : Int32} {x2 : Int32} {x3 : Int32} {x4 : Int32} {M : Mm} {v : Int32} (hE : Has shC (eH E)) (C : Cx RX6 cX6_spreadNearest 7 p (rmD 4) s m args meth c E) (hr : meth.sig.returnType = (some .int)) (h : b_X6_spreadNearest_34_17 n x1 x2 x3 x4 M = some v) : G p l e (rmD 4) s m args below meth c E 7 0 0 (QR below args s E 0 0 (some (.int v)) M) 17 [(0, .ref (eA E 34)), (1, .int x1), (2, .int x2), (3, .int x3), (4, .int x4)] [] M := by
  induction n generalizing x1 x2 x3 x4 M with
  | zero => cases h
  | succ n ih => exact gb_X6_spreadNearest_34_17 hE C hr (fun _ _ _ _ _ => ih)  h
def bb_X6_spreadNearest_34_0 (x1 : Int32) (M : Mm) : Option Int32 := if 0 < (M.1 34 1) then (b_X6_spreadNearest_34_17 FU x1 (-1 : Int32) (1000000 : Int32) (0 : Int32) M) else (some (-1 : Int32))
set_option maxHeartbeats 4000000 in
set_option maxRecDepth 100000 in
theorem gb_X6_spreadNearest_34_0  {x1 : Int32} {M : Mm} {v : Int32} (hE : Has shC (eH E)) (C : Cx RX6 cX6_spreadNearest 7 p (rmD 4) s m args meth c E) (hr : meth.sig.returnType = (some .int)) (h : bb_X6_spreadNearest_34_0 x1 M = some v) : G p l e (rmD 4) s m args below meth c E 7 0 0 (QR below args s E 0 0 (some (.int v)) M) 0 [(0, .ref (eA E 34)), (1, .int x1)] [] M := by
  unfold bb_X6_spreadNearest_34_0 at h
  refine G.aload_n C 0 dX6_spreadNearest_0 rfl rfl ?_
  refine G.getI (k := 1) C k_X6 (sc_34 hE) rfl (by decide) tg_297 dX6_spreadNearest_1 ?_
  refine G.if_gt (tgt := 9) C dX6_spreadNearest_4 (by decide) (fun hc => ?_) (fun hc => ?_)
  · have h := it_t h hc
    refine G.iconst (v := (-1 : Int32)) C dX6_spreadNearest_9 (by decide) ?_
    refine G.istore_n (L' := [(2, .int (-1 : Int32)), (0, .ref (eA E 34)), (1, .int x1)]) C dX6_spreadNearest_10 rfl rfl (by decide) rfl ?_
    refine G.ldc C tg_1243 dX6_spreadNearest_11 ?_
    refine G.istore_n (L' := [(3, .int (1000000 : Int32)), (2, .int (-1 : Int32)), (0, .ref (eA E 34)), (1, .int x1)]) C dX6_spreadNearest_13 rfl rfl (by decide) rfl ?_
    refine G.iconst (v := (0 : Int32)) C dX6_spreadNearest_14 (by decide) ?_
    refine G.istore (L' := [(4, .int (0 : Int32)), (3, .int (1000000 : Int32)), (2, .int (-1 : Int32)), (0, .ref (eA E 34)), (1, .int x1)]) C dX6_spreadNearest_15 rfl (by decide) rfl ?_
    exact G.sub [3, 4, 2, 1, 0] rfl (g_X6_spreadNearest_34_17 hE C hr  h)
  · have h := it_f h hc
    refine G.iconst (v := (-1 : Int32)) C dX6_spreadNearest_7 (by decide) ?_
    cases h
    exact G.iret C hr dX6_spreadNearest_8
def f_X6_spreadNearest_34 (x1 : Int32) (M : Mm) : Option Int32 := bb_X6_spreadNearest_34_0 x1 M
theorem s_X6_spreadNearest_34 {l : Launch} {E : Ev} {x1 : Int32} {M : Mm} {v : Int32} (hE : Has shC (eH E)) (h : f_X6_spreadNearest_34 x1 M = some v) : MetA l yX6_spreadNearest cX6_spreadNearest 7 (some .int) 4 E [.ref (eA E 34), .int x1] M (some (.int v)) M := by
  refine MetA.of (by decide +kernel) (Nat.le_of_ble_eq_true rfl) ?_
  intro p e s m below meth c C hr hnm
  exact G.sub [0, 1] rfl (gb_X6_spreadNearest_34_0 hE C hr  h)
def bb_X6_sizeGroups_7 (k_7 : Int32 → Int32 → Int32 → Int32 → Int32 → Option Int32) (x0 : Int32) (x1 : Int32) (x2 : Int32) (x3 : Int32) (x4 : Int32) : Option Int32 := if (9 : Int32) < x4 then (some x2) else (if (x0 &&& (shI (1 : Int32) (x4 - (1 : Int32)))) = 0 then (ltv (x4 + (1 : Int32)) fun x4_6 => k_7 x0 x1 x2 x3 x4_6) else (if x2 = 0 then (ltv (x2 + (1 : Int32)) fun x2_1 => ltv (x4 + (1 : Int32)) fun x4_2 => k_7 x0 x1 x2_1 x4 x4_2) else (if (((16 : Int32) * x4) * x4) ≤ ((((16 : Int32) + x1) * x3) * x3) then (ltv (x4 + (1 : Int32)) fun x4_3 => k_7 x0 x1 x2 x3 x4_3) else (ltv (x2 + (1 : Int32)) fun x2_4 => ltv (x4 + (1 : Int32)) fun x4_5 => k_7 x0 x1 x2_4 x4 x4_5))))
set_option maxHeartbeats 4000000 in
set_option maxRecDepth 100000 in
theorem gb_X6_sizeGroups_7 {M : Mm}  {k_7 : Int32 → Int32 → Int32 → Int32 → Int32 → Option Int32} {x0 : Int32} {x1 : Int32} {x2 : Int32} {x3 : Int32} {x4 : Int32} {v : Int32} (C : Cx RX6 cX6_sizeGroups 5 p (rmD 1) s m args meth c E) (hr : meth.sig.returnType = (some .int)) (hk_7 : ∀ (x0 : Int32) (x1 : Int32) (x2 : Int32) (x3 : Int32) (x4 : Int32), k_7 x0 x1 x2 x3 x4 = some v → G p l e (rmD 1) s m args below meth c E 5 0 0 (QR below args s E 0 0 (some (.int v)) M) 7 [(0, .int x0), (1, .int x1), (2, .int x2), (3, .int x3), (4, .int x4)] [] M) (h : bb_X6_sizeGroups_7 k_7 x0 x1 x2 x3 x4 = some v) : G p l e (rmD 1) s m args below meth c E 5 0 0 (QR below args s E 0 0 (some (.int v)) M) 7 [(0, .int x0), (1, .int x1), (2, .int x2), (3, .int x3), (4, .int x4)] [] M := by
  unfold bb_X6_sizeGroups_7 at h
  refine G.iload C 4 dX6_sizeGroups_7 rfl ?_
  refine G.bipush (v := (9 : Int32)) C dX6_sizeGroups_9 (by decide) ?_
  refine G.icmp_gt (tgt := 63) C dX6_sizeGroups_11 (by decide) (fun hc => ?_) (fun hc => ?_)
  · have h := it_t h hc
    refine G.iload_n C 2 dX6_sizeGroups_63 rfl rfl ?_
    cases h
    exact G.iret C hr dX6_sizeGroups_64
  · have h := it_f h hc
    refine G.iload_n C 0 dX6_sizeGroups_14 rfl rfl ?_
    refine G.iconst (v := (1 : Int32)) C dX6_sizeGroups_15 (by decide) ?_
    refine G.iload C 4 dX6_sizeGroups_16 rfl ?_
    refine G.iconst (v := (1 : Int32)) C dX6_sizeGroups_18 (by decide) ?_
    refine G.isub C dX6_sizeGroups_19 ?_
    refine G.isl C dX6_sizeGroups_20 ?_
    refine G.iand C dX6_sizeGroups_21 ?_
    refine G.if_ne (tgt := 28) C dX6_sizeGroups_22 (by decide) (fun hc => ?_) (fun hc => ?_)
    · have h := it_f h hc
      refine G.iload_n C 2 dX6_sizeGroups_28 rfl rfl ?_
      refine G.if_eq (tgt := 51) C dX6_sizeGroups_29 (by decide) (fun hc => ?_) (fun hc => ?_)
      · have h := it_t h hc
        obtain ⟨x2_1, ex2_1, h⟩ := ltv_ex h
        refine G.iinc (L' := [(2, .int x2_1), (0, .int x0), (1, .int x1), (3, .int x3), (4, .int x4)]) C 2 dX6_sizeGroups_51 rfl (ex2_1.trans rfl) (by decide) rfl ?_
        refine G.iload C 4 dX6_sizeGroups_54 rfl ?_
        refine G.istore_n (L' := [(3, .int x4), (2, .int x2_1), (0, .int x0), (1, .int x1), (4, .int x4)]) C dX6_sizeGroups_56 rfl rfl (by decide) rfl ?_
        obtain ⟨x4_2, ex4_2, h⟩ := ltv_ex h
        refine G.iinc (L' := [(4, .int x4_2), (3, .int x4), (2, .int x2_1), (0, .int x0), (1, .int x1)]) C 4 dX6_sizeGroups_57 rfl (ex4_2.trans rfl) (by decide) rfl ?_
        refine G.goto (tgt := 7) C dX6_sizeGroups_60 (by decide) ?_
        exact G.sub [3, 4, 2, 1, 0] rfl (hk_7 _ _ _ _ _  h)
      · have h := it_f h hc
        refine G.bipush (v := (16 : Int32)) C dX6_sizeGroups_32 (by decide) ?_
        refine G.iload C 4 dX6_sizeGroups_34 rfl ?_
        refine G.imul C dX6_sizeGroups_36 ?_
        refine G.iload C 4 dX6_sizeGroups_37 rfl ?_
        refine G.imul C dX6_sizeGroups_39 ?_
        refine G.bipush (v := (16 : Int32)) C dX6_sizeGroups_40 (by decide) ?_
        refine G.iload_n C 1 dX6_sizeGroups_42 rfl rfl ?_
        refine G.iadd C dX6_sizeGroups_43 ?_
        refine G.iload_n C 3 dX6_sizeGroups_44 rfl rfl ?_
        refine G.imul C dX6_sizeGroups_45 ?_
        refine G.iload_n C 3 dX6_sizeGroups_46 rfl rfl ?_
        refine G.imul C dX6_sizeGroups_47 ?_
        refine G.icmp_le (tgt := 57) C dX6_sizeGroups_48 (by decide) (fun hc => ?_) (fun hc => ?_)
        · have h := it_t h hc
          obtain ⟨x4_3, ex4_3, h⟩ := ltv_ex h
          refine G.iinc (L' := [(4, .int x4_3), (0, .int x0), (1, .int x1), (2, .int x2), (3, .int x3)]) C 4 dX6_sizeGroups_57 rfl (ex4_3.trans rfl) (by decide) rfl ?_
          refine G.goto (tgt := 7) C dX6_sizeGroups_60 (by decide) ?_
          exact G.sub [1, 2, 3, 4, 0] rfl (hk_7 _ _ _ _ _  h)
        · have h := it_f h hc
          obtain ⟨x2_4, ex2_4, h⟩ := ltv_ex h
          refine G.iinc (L' := [(2, .int x2_4), (0, .int x0), (1, .int x1), (3, .int x3), (4, .int x4)]) C 2 dX6_sizeGroups_51 rfl (ex2_4.trans rfl) (by decide) rfl ?_
          refine G.iload C 4 dX6_sizeGroups_54 rfl ?_
          refine G.istore_n (L' := [(3, .int x4), (2, .int x2_4), (0, .int x0), (1, .int x1), (4, .int x4)]) C dX6_sizeGroups_56 rfl rfl (by decide) rfl ?_
          obtain ⟨x4_5, ex4_5, h⟩ := ltv_ex h
          refine G.iinc (L' := [(4, .int x4_5), (3, .int x4), (2, .int x2_4), (0, .int x0), (1, .int x1)]) C 4 dX6_sizeGroups_57 rfl (ex4_5.trans rfl) (by decide) rfl ?_
          refine G.goto (tgt := 7) C dX6_sizeGroups_60 (by decide) ?_
          exact G.sub [3, 4, 2, 1, 0] rfl (hk_7 _ _ _ _ _  h)
    · have h := it_t h hc
      refine G.goto (tgt := 57) C dX6_sizeGroups_25 (by decide) ?_
      obtain ⟨x4_6, ex4_6, h⟩ := ltv_ex h
      refine G.iinc (L' := [(4, .int x4_6), (0, .int x0), (1, .int x1), (2, .int x2), (3, .int x3)]) C 4 dX6_sizeGroups_57 rfl (ex4_6.trans rfl) (by decide) rfl ?_
      refine G.goto (tgt := 7) C dX6_sizeGroups_60 (by decide) ?_
      exact G.sub [1, 2, 3, 4, 0] rfl (hk_7 _ _ _ _ _  h)
def b_X6_sizeGroups_7 : Nat → Int32 → Int32 → Int32 → Int32 → Int32 → Option Int32
  | 0, _, _, _, _, _ => none
  | n + 1, x0, x1, x2, x3, x4 => bb_X6_sizeGroups_7 (b_X6_sizeGroups_7 n) x0 x1 x2 x3 x4
set_option maxHeartbeats 4000000 in
theorem g_X6_sizeGroups_7 {M : Mm}  {n : Nat} {x0 : Int32} {x1 : Int32} {x2 : Int32} {x3 : Int32} {x4 : Int32} {v : Int32} (C : Cx RX6 cX6_sizeGroups 5 p (rmD 1) s m args meth c E) (hr : meth.sig.returnType = (some .int)) (h : b_X6_sizeGroups_7 n x0 x1 x2 x3 x4 = some v) : G p l e (rmD 1) s m args below meth c E 5 0 0 (QR below args s E 0 0 (some (.int v)) M) 7 [(0, .int x0), (1, .int x1), (2, .int x2), (3, .int x3), (4, .int x4)] [] M := by
  induction n generalizing x0 x1 x2 x3 x4 with
  | zero => cases h
  | succ n ih => exact gb_X6_sizeGroups_7 C hr (fun _ _ _ _ _ => ih)  h
def bb_X6_sizeGroups_0 (x0 : Int32) (x1 : Int32) : Option Int32 := b_X6_sizeGroups_7 FU x0 x1 (0 : Int32) (0 : Int32) (1 : Int32)
set_option maxHeartbeats 4000000 in
set_option maxRecDepth 100000 in
theorem gb_X6_sizeGroups_0 {M : Mm}  {x0 : Int32} {x1 : Int32} {v : Int32} (C : Cx RX6 cX6_sizeGroups 5 p (rmD 1) s m args meth c E) (hr : meth.sig.returnType = (some .int)) (h : bb_X6_sizeGroups_0 x0 x1 = some v) : G p l e (rmD 1) s m args below meth c E 5 0 0 (QR below args s E 0 0 (some (.int v)) M) 0 [(0, .int x0), (1, .int x1)] [] M := by
  unfold bb_X6_sizeGroups_0 at h
  refine G.iconst (v := (0 : Int32)) C dX6_sizeGroups_0 (by decide) ?_
  refine G.istore_n (L' := [(2, .int (0 : Int32)), (0, .int x0), (1, .int x1)]) C dX6_sizeGroups_1 rfl rfl (by decide) rfl ?_
  refine G.iconst (v := (0 : Int32)) C dX6_sizeGroups_2 (by decide) ?_
  refine G.istore_n (L' := [(3, .int (0 : Int32)), (2, .int (0 : Int32)), (0, .int x0), (1, .int x1)]) C dX6_sizeGroups_3 rfl rfl (by decide) rfl ?_
  refine G.iconst (v := (1 : Int32)) C dX6_sizeGroups_4 (by decide) ?_
  refine G.istore (L' := [(4, .int (1 : Int32)), (3, .int (0 : Int32)), (2, .int (0 : Int32)), (0, .int x0), (1, .int x1)]) C dX6_sizeGroups_5 rfl (by decide) rfl ?_
  exact G.sub [3, 4, 2, 1, 0] rfl (g_X6_sizeGroups_7 C hr  h)
def f_X6_sizeGroups (x0 : Int32) (x1 : Int32) : Option Int32 := bb_X6_sizeGroups_0 x0 x1
theorem s_X6_sizeGroups {l : Launch} {E : Ev} {x0 : Int32} {x1 : Int32} {M : Mm} {v : Int32} (h : f_X6_sizeGroups x0 x1 = some v) : MetA l yX6_sizeGroups cX6_sizeGroups 5 (some .int) 1 E [.int x0, .int x1] M (some (.int v)) M := by
  refine MetA.of (by decide +kernel) (Nat.le_of_ble_eq_true rfl) ?_
  intro p e s m below meth c C hr hnm
  exact G.sub [0, 1] rfl (gb_X6_sizeGroups_0 C hr  h)
end
