-- ===== the start: what the constructors leave =====
theorem Zr.fr {n : Nat} {L : List (Nat × Nat)} {M M' : Mm} (h : Zr n M) (hf : Fr L M M') (hL : L.all (fun q => decide (q.1 < n)) = true) : Zr n M' := by
  intro c hc i
  have h0 : inW L c i = false := by
    apply Bool.eq_false_iff.mpr
    intro h1
    unfold inW at h1
    rw [List.any_eq_true] at h1
    obtain ⟨q, hq, e1⟩ := h1
    have h2 := of_decide_eq_true (List.all_eq_true.mp hL q hq)
    simp only [Bool.and_eq_true, Bool.or_eq_true, beq_iff_eq] at e1
    omega
  obtain ⟨a, b⟩ := hf c i h0
  exact ⟨a.trans (h c hc i).1, b.trans (h c hc i).2⟩
def σ0 : Sg := (0, 0, fun _ => 0, fun _ => 0, fun _ _ => 0, fun _ => 4, 0, fun _ => 0, fun _ => 0)
theorem no0 {k : Nat} {P : Prop} (h : k < 0) : P := absurd h (Nat.not_lt_zero k)
theorem GoodS0 : Good σ0 := ⟨Nat.zero_le _, Nat.zero_le _, fun w hw => no0 hw, fun z _ => (by decide : 4 ≤ 16), Nat.zero_le _, fun h hh => no0 hh⟩
def LstC : List (Nat × Nat) := [(1, 2), (1, 3), (1, 4), (1, 5), (1, 6), (0, 2), (34, 0), (34, 1), (34, 11), (34, 12), (0, 10)]
def LstM : List (Nat × Nat) := [(67, 3), (67, 23), (90, 999)]
def LstA : List (Nat × Nat) := LCO ++ [(50, 0), (50, 1), (50, 2), (50, 5), (50, 7), (24, 5), (25, 999), (29, 999), (34, 0), (34, 1), (35, 999), (36, 999), (37, 999), (38, 999), (43, 999)]
theorem mkC_fr (M : Mm) : Fr LstC M (mk_10 M) := Fr.tr (Fr.wrI rfl) (Fr.tr (Fr.wrI rfl) (Fr.tr (Fr.wrI rfl) (Fr.tr (Fr.wrI rfl) (Fr.tr (Fr.wrI rfl) (Fr.tr (Fr.wrI rfl) (Fr.tr (Fr.wrI rfl) (Fr.tr (Fr.wrI rfl) (Fr.tr (Fr.wrI rfl) (Fr.tr (Fr.wrI rfl) (Fr.wrI rfl))))))))))
theorem mkM_fr (M : Mm) : Fr LstM M (mk_22 M) := Fr.tr (Fr.wrI rfl) (Fr.tr (Fr.wrI rfl) (Fr.tr (Fr.wrI rfl) (Fr.tr (Fr.wrI rfl) (Fr.tr (Fr.wrI rfl) (Fr.tr (Fr.wrI rfl) (Fr.tr (Fr.wrI rfl) (Fr.tr (Fr.wrI rfl) (Fr.tr (Fr.wrI rfl) (Fr.tr (Fr.wrI rfl) (Fr.tr (Fr.wrI rfl) (Fr.wrI rfl)))))))))))
theorem start_c {M : Mm} (hz : Zr 0 M) : ∃ m1 m2 m3 m4, f_X7_wipe_11 (mk_10 M) = some m1 ∧ f_X0_wipe_50 m1 = some m2 ∧ f_X1_lay_24_11 m2 = some m3 ∧ f_X6_lay_34_11 m3 = some m4 ∧ Zr 67 m4 ∧ Rel (mk_22 m4) := by
  have fC := mkC_fr M
  have z0 : Zr 67 (mk_10 M) := (hz.up (Nat.zero_le 67)).fr fC (by decide)
  have v12 : (mk_10 M).1 1 2 = 0 := rfl
  have v02 : (mk_10 M).1 0 2 = -1 := rfl
  have v010 : (mk_10 M).1 0 10 = 0 := rfl
  have v2 : ∀ i, (mk_10 M).1 2 i = 0 := fun i => ((fC 2 i rfl).1).trans (hz 2 (Nat.zero_le _) i).1
  generalize mk_10 M = M0 at *
  obtain ⟨M1, e1, f1, t1⟩ := fill12 0 (wI (wI (wI M0 11 7 0) 11 8 0) 11 9 0)
  obtain ⟨M2, e2, f2, t2⟩ := fill13 (-1) M1
  obtain ⟨M3, e3, f3, t3⟩ := fill15 0 M2
  obtain ⟨M4, e4, f4, t4⟩ := fill16 4 M3
  have fr : Fr LCO M0 M4 := Fr.tr (Fr.tr (Fr.wrI rfl) (Fr.tr (Fr.wrI rfl) (Fr.wrI rfl))) (Fr.tr (Fr.sub f1 (by decide)) (Fr.tr (Fr.sub f2 (by decide)) (Fr.tr (Fr.sub f3 (by decide)) (Fr.sub f4 (by decide)))))
  have ew : f_X7_wipe_11 M0 = some M4 := by
    unfold f_X7_wipe_11 bb_X7_wipe_11_0
    rw [ltv_eq, ltv_eq, ltv_eq, e1, bd_some, e2, bd_some, e3, bd_some, e4, bd_some]
  have a7 : M4.1 11 7 = 0 := ((f4 11 7 rfl).1).trans (((f3 11 7 rfl).1).trans (((f2 11 7 rfl).1).trans (f1 11 7 rfl).1))
  have a8 : M4.1 11 8 = 0 := ((f4 11 8 rfl).1).trans (((f3 11 8 rfl).1).trans (((f2 11 8 rfl).1).trans (f1 11 8 rfl).1))
  have a9 : M4.1 11 9 = 0 := ((f4 11 9 rfl).1).trans (((f3 11 9 rfl).1).trans (((f2 11 9 rfl).1).trans (f1 11 9 rfl).1))
  have S4 : SC σ0 M4 := SC.mk ⟨a7, a8, a9, fun i hi => no0 hi, fun w hw => no0 hw, fun z hz => t4 z hz, fun h hh => no0 hh⟩
  let M5 : Mm := wI (wI (wI (wJ (wI M4 50 0 (-1)) 50 1 0) 50 2 0) 50 5 0) 50 7 0
  have e5 : f_X0_wipe_50 M4 = some M5 := rfl
  have f5 : Fr [(50, 0), (50, 1), (50, 2), (50, 5), (50, 7)] M4 M5 := Fr.tr (Fr.wrI rfl) (Fr.tr (Fr.wrJ rfl) (Fr.tr (Fr.wrI rfl) (Fr.tr (Fr.wrI rfl) (Fr.wrI rfl))))
  have b5 : BC β0 50 M5 := by
    show BC0 β0 50 M5
    exact ⟨rfl, ⟨rfl, fun z => absurd rfl z⟩, rfl, fun k hk => no0 hk, rfl, fun k hk => no0 hk⟩
  have S5 : SC σ0 M5 := S4.fr f5 (by decide)
  obtain ⟨M6, e6, f6, c2, c3⟩ := layC_c GoodS0 S5
  have S6 : SC σ0 M6 := S5.fr f6 (by decide)
  obtain ⟨M7, e7, f7, c4, c5⟩ := layT_c GoodS0 S6
  have c1 : C1 σ0 M7 := by
    show C10 σ0 M7
    exact fun l hl => no0 hl
  have fA : Fr LstA M0 M7 := Fr.tr (Fr.sub fr (by decide)) (Fr.tr (Fr.sub f5 (by decide)) (Fr.tr (Fr.sub f6 (by decide)) (Fr.sub f7 (by decide))))
  have z7 : Zr 67 M7 := z0.fr fA (by decide)
  have rc : RC σ0 M7 := ⟨S6.fr f7 (by decide), c1, c2.fr f7 (by decide), c3.fr f7 (by decide), c4, c5⟩
  have b7 : BC β0 50 M7 := (b5.fr f6 (by decide)).fr f7 (by decide)
  have w12 : M7.1 1 2 = 0 := ((fA 1 2 rfl).1).trans v12
  have w02 : M7.1 0 2 = -1 := ((fA 0 2 rfl).1).trans v02
  have w010 : M7.1 0 10 = 0 := ((fA 0 10 rfl).1).trans v010
  have w2 : ∀ i, M7.1 2 i = 0 := fun i => ((fA 2 i rfl).1).trans (v2 i)
  refine ⟨M4, M5, M6, M7, ew, e5, e6, e7, z7, σ0, β0, GoodS0, GB0 _, ?_⟩
  have fM := mkM_fr M7
  have sp : ∀ z, z < 10 → (mk_22 M7).1 90 z = 4 := by
    intro z hz
    rcases z with _ | _ | _ | _ | _ | _ | _ | _ | _ | _ | z <;> first | rfl | omega
  have p3 : (mk_22 M7).1 67 3 = -1 := rfl
  have p23 : (mk_22 M7).1 67 23 = -1 := rfl
  generalize mk_22 M7 = M8 at *
  have q : ∀ c i, 67 ≤ c → inW LstM c i = false → M8.1 c i = 0 := fun c i hc hi => ((fM c i hi).1).trans (z7 c hc i).1
  refine ⟨rc.fr fM (by decide), SM.mk ⟨q 70 0 (by decide) rfl, q 70 1 (by decide) rfl, q 67 19 (by decide) rfl, fun i hi => no0 hi, ⟨fun w hw => no0 hw, fun k hk => no0 hk, fun k hk => no0 hk, fun k hk => no0 hk, fun k hk => no0 hk, fun k hk => no0 hk, fun k hk => no0 hk⟩, fun z hz => sp z hz, fun h hh => no0 hh⟩, b7.fr fM (by decide), BM.mk ⟨p23, fun z => absurd rfl z, q 67 25 (by decide) rfl, fun k hk => no0 hk, q 67 26 (by decide) rfl, fun k hk => no0 hk⟩, ?_, ?_⟩
  · show TP0 M8
    have u12 : M8.1 1 2 = 0 := ((fM 1 2 rfl).1).trans w12
    exact ⟨⟨0, Nat.zero_le _, u12⟩, (q 67 1 (by decide) rfl).trans u12.symm, fun i _ => (q 68 i (by decide) rfl).trans (((fM 2 i rfl).1).trans (w2 i)).symm, p3.trans (((fM 0 2 rfl).1).trans w02).symm⟩
  · show IM0 σ0 M8
    exact ⟨0, Nat.zero_le _, ((fM 0 10 rfl).1).trans w010, q 67 27 (by decide) rfl, fun h => no0 h, fun h => absurd h (by decide), fun h => absurd h (by decide)⟩
