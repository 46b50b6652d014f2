def fw_L_sheet_0_120 (x1 : Int32) (M : Mm) : Option (Int32 × Mm) := match t_X9_sheet_0 x1 M with | some 2 => some ((1 : Int32), M) | some _ => none | none => f_L_sheet_0_120 x1 M
theorem sw_L_sheet_0_120 {l : Launch} {E : Ev} {x1 : Int32} {M : Mm} {v : Int32} {M' : Mm} (hl : l.stackTraces = false) (hE : Has shA (eH E)) (h : fw_L_sheet_0_120 x1 M = some (v, M')) : MetB l yL_sheet cL_sheet 4 (some .int) [(0, 9, 12, 13)] 10 E [.ref (eA E 0), .int x1, .ref (eA E 120)] M (some (.int v)) M' := by
  unfold fw_L_sheet_0_120 at h
  cases ht : t_X9_sheet_0 x1 M with
  | none => rw [ht] at h; exact s_L_sheet_0_120 hE h
  | some j =>
    rw [ht] at h
    match j, ht, h with
    | 2, ht, h => cases h; exact w2_L_sheet_0_120 hl hE ht
    | 0, ht, h => cases h
    | 1, ht, h => cases h
    | 3, ht, h => cases h
    | n + 4, ht, h => cases h

def fw_L_told_0_120 (x1 : Int32) (M : Mm) : Option (Int32 × Mm) := match t_X9_told_0 x1 M with | some 2 => some ((1 : Int32), M) | some _ => none | none => f_L_told_0_120 x1 M
theorem sw_L_told_0_120 {l : Launch} {E : Ev} {x1 : Int32} {M : Mm} {v : Int32} {M' : Mm} (hl : l.stackTraces = false) (hE : Has shA (eH E)) (h : fw_L_told_0_120 x1 M = some (v, M')) : MetB l yL_told cL_told 4 (some .int) [(0, 9, 12, 13)] 8 E [.ref (eA E 0), .int x1, .ref (eA E 120)] M (some (.int v)) M' := by
  unfold fw_L_told_0_120 at h
  cases ht : t_X9_told_0 x1 M with
  | none => rw [ht] at h; exact s_L_told_0_120 hE h
  | some j =>
    rw [ht] at h
    match j, ht, h with
    | 2, ht, h => cases h; exact w2_L_told_0_120 hl hE ht
    | 0, ht, h => cases h
    | 1, ht, h => cases h
    | 3, ht, h => cases h
    | n + 4, ht, h => cases h

def fw_L_squares_0_120 (x1 : Int32) (x2 : Int32) (M : Mm) : Option (Int32 × Mm) := match t_X9_squares_0 x1 x2 M with | some 1 => some ((1 : Int32), M) | some 2 => some ((2 : Int32), M) | some _ => none | none => f_L_squares_0_120 x1 x2 M
theorem sw_L_squares_0_120 {l : Launch} {E : Ev} {x1 : Int32} {x2 : Int32} {M : Mm} {v : Int32} {M' : Mm} (hl : l.stackTraces = false) (hE : Has shA (eH E)) (h : fw_L_squares_0_120 x1 x2 M = some (v, M')) : MetB l yL_squares cL_squares 5 (some .int) [(0, 9, 12, 22), (0, 9, 16, 13)] 8 E [.ref (eA E 0), .int x1, .int x2, .ref (eA E 120)] M (some (.int v)) M' := by
  unfold fw_L_squares_0_120 at h
  cases ht : t_X9_squares_0 x1 x2 M with
  | none => rw [ht] at h; exact s_L_squares_0_120 hE h
  | some j =>
    rw [ht] at h
    match j, ht, h with
    | 1, ht, h => cases h; exact w1_L_squares_0_120 hl hE ht
    | 2, ht, h => cases h; exact w2_L_squares_0_120 hl hE ht
    | 0, ht, h => cases h
    | 3, ht, h => cases h
    | n + 4, ht, h => cases h

def fw_L_letter_0_120 (x1 : Int32) (x2 : Int32) (M : Mm) : Option (Int32 × Mm) := match t_X9_letter_0 x1 x2 M with | some 1 => some ((1 : Int32), M) | some 2 => some ((2 : Int32), M) | some _ => none | none => f_L_letter_0_120 x1 x2 M
theorem sw_L_letter_0_120 {l : Launch} {E : Ev} {x1 : Int32} {x2 : Int32} {M : Mm} {v : Int32} {M' : Mm} (hl : l.stackTraces = false) (hE : Has shA (eH E)) (h : fw_L_letter_0_120 x1 x2 M = some (v, M')) : MetB l yL_letter cL_letter 5 (some .int) [(0, 10, 13, 22), (0, 10, 17, 13)] 8 E [.ref (eA E 0), .int x1, .int x2, .ref (eA E 120)] M (some (.int v)) M' := by
  unfold fw_L_letter_0_120 at h
  cases ht : t_X9_letter_0 x1 x2 M with
  | none => rw [ht] at h; exact s_L_letter_0_120 hE h
  | some j =>
    rw [ht] at h
    match j, ht, h with
    | 1, ht, h => cases h; exact w1_L_letter_0_120 hl hE ht
    | 2, ht, h => cases h; exact w2_L_letter_0_120 hl hE ht
    | 0, ht, h => cases h
    | 3, ht, h => cases h
    | n + 4, ht, h => cases h

def fw_L_hollow_0_120 (x1 : Int32) (M : Mm) : Option (Int32 × Mm) := match t_X9_hollow_0 x1 M with | some 3 => some ((1 : Int32), M) | some _ => none | none => f_L_hollow_0_120 x1 M
theorem sw_L_hollow_0_120 {l : Launch} {E : Ev} {x1 : Int32} {M : Mm} {v : Int32} {M' : Mm} (hl : l.stackTraces = false) (hE : Has shA (eH E)) (h : fw_L_hollow_0_120 x1 M = some (v, M')) : MetB l yL_hollow cL_hollow 4 (some .int) [(0, 8, 11, 32)] 8 E [.ref (eA E 0), .int x1, .ref (eA E 120)] M (some (.int v)) M' := by
  unfold fw_L_hollow_0_120 at h
  cases ht : t_X9_hollow_0 x1 M with
  | none => rw [ht] at h; exact s_L_hollow_0_120 hE h
  | some j =>
    rw [ht] at h
    match j, ht, h with
    | 3, ht, h => cases h; exact w3_L_hollow_0_120 hl hE ht
    | 0, ht, h => cases h
    | 1, ht, h => cases h
    | 2, ht, h => cases h
    | n + 4, ht, h => cases h

def fw_L_apart_0_120 (x1 : Int32) (x2 : Int32) (x3 : Int32) (M : Mm) : Option (Int32 × Mm) := match t_X9_apart_0 x1 x2 x3 M with | some 3 => some ((1 : Int32), M) | some _ => none | none => f_L_apart_0_120 x1 x2 x3 M
theorem sw_L_apart_0_120 {l : Launch} {E : Ev} {x1 : Int32} {x2 : Int32} {x3 : Int32} {M : Mm} {v : Int32} {M' : Mm} (hl : l.stackTraces = false) (hE : Has shA (eH E)) (h : fw_L_apart_0_120 x1 x2 x3 M = some (v, M')) : MetB l yL_apart cL_apart 6 (some .int) [(0, 12, 15, 32)] 8 E [.ref (eA E 0), .int x1, .int x2, .int x3, .ref (eA E 120)] M (some (.int v)) M' := by
  unfold fw_L_apart_0_120 at h
  cases ht : t_X9_apart_0 x1 x2 x3 M with
  | none => rw [ht] at h; exact s_L_apart_0_120 hE h
  | some j =>
    rw [ht] at h
    match j, ht, h with
    | 3, ht, h => cases h; exact w3_L_apart_0_120 hl hE ht
    | 0, ht, h => cases h
    | 1, ht, h => cases h
    | 2, ht, h => cases h
    | n + 4, ht, h => cases h

def fw_L_punches_0_120 (x1 : Int32) (x2 : Int32) (x3 : Int32) (M : Mm) : Option (Int32 × Mm) := match t_X9_punches_0 x1 x2 x3 M with | some 2 => some ((1 : Int32), M) | some _ => none | none => f_L_punches_0_120 x1 x2 x3 M
theorem sw_L_punches_0_120 {l : Launch} {E : Ev} {x1 : Int32} {x2 : Int32} {x3 : Int32} {M : Mm} {v : Int32} {M' : Mm} (hl : l.stackTraces = false) (hE : Has shA (eH E)) (h : fw_L_punches_0_120 x1 x2 x3 M = some (v, M')) : MetB l yL_punches cL_punches 6 (some .int) [(0, 12, 15, 13)] 24 E [.ref (eA E 0), .int x1, .int x2, .int x3, .ref (eA E 120)] M (some (.int v)) M' := by
  unfold fw_L_punches_0_120 at h
  cases ht : t_X9_punches_0 x1 x2 x3 M with
  | none => rw [ht] at h; exact s_L_punches_0_120 hE h
  | some j =>
    rw [ht] at h
    match j, ht, h with
    | 2, ht, h => cases h; exact w2_L_punches_0_120 hl hE ht
    | 0, ht, h => cases h
    | 1, ht, h => cases h
    | 3, ht, h => cases h
    | n + 4, ht, h => cases h

def fw_L_served_0_120 (x1 : Int32) (x2 : Int32) (x3 : Int32) (M : Mm) : Option (Int32 × Mm) := match t_X9_served_0 x1 x2 x3 M with | some 3 => some ((1 : Int32), M) | some 2 => some ((2 : Int32), M) | some _ => none | none => f_L_served_0_120 x1 x2 x3 M
theorem sw_L_served_0_120 {l : Launch} {E : Ev} {x1 : Int32} {x2 : Int32} {x3 : Int32} {M : Mm} {v : Int32} {M' : Mm} (hl : l.stackTraces = false) (hE : Has shA (eH E)) (h : fw_L_served_0_120 x1 x2 x3 M = some (v, M')) : MetB l yL_served cL_served 6 (some .int) [(0, 12, 15, 32), (0, 12, 19, 13)] 25 E [.ref (eA E 0), .int x1, .int x2, .int x3, .ref (eA E 120)] M (some (.int v)) M' := by
  unfold fw_L_served_0_120 at h
  cases ht : t_X9_served_0 x1 x2 x3 M with
  | none => rw [ht] at h; exact s_L_served_0_120 hE h
  | some j =>
    rw [ht] at h
    match j, ht, h with
    | 3, ht, h => cases h; exact w3_L_served_0_120 hl hE ht
    | 2, ht, h => cases h; exact w2_L_served_0_120 hl hE ht
    | 0, ht, h => cases h
    | 1, ht, h => cases h
    | n + 4, ht, h => cases h

def fw_L_bites_0_120 (x1 : Int32) (x2 : Int32) (M : Mm) : Option (Int32 × Mm) := match t_X9_bites_0 x1 x2 M with | some 1 => some ((1 : Int32), M) | some 2 => some ((2 : Int32), M) | some _ => none | none => f_L_bites_0_120 x1 x2 M
theorem sw_L_bites_0_120 {l : Launch} {E : Ev} {x1 : Int32} {x2 : Int32} {M : Mm} {v : Int32} {M' : Mm} (hl : l.stackTraces = false) (hE : Has shA (eH E)) (h : fw_L_bites_0_120 x1 x2 M = some (v, M')) : MetB l yL_bites cL_bites 5 (some .int) [(0, 10, 13, 22), (0, 10, 17, 13)] 27 E [.ref (eA E 0), .int x1, .int x2, .ref (eA E 120)] M (some (.int v)) M' := by
  unfold fw_L_bites_0_120 at h
  cases ht : t_X9_bites_0 x1 x2 M with
  | none => rw [ht] at h; exact s_L_bites_0_120 hE h
  | some j =>
    rw [ht] at h
    match j, ht, h with
    | 1, ht, h => cases h; exact w1_L_bites_0_120 hl hE ht
    | 2, ht, h => cases h; exact w2_L_bites_0_120 hl hE ht
    | 0, ht, h => cases h
    | 3, ht, h => cases h
    | n + 4, ht, h => cases h

def fw_L_lines_0_120 (x1 : Int32) (M : Mm) : Option (Int32 × Mm) := match t_X9_lines_0 x1 M with | some 1 => some ((1 : Int32), M) | some _ => none | none => f_L_lines_0_120 x1 M
theorem sw_L_lines_0_120 {l : Launch} {E : Ev} {x1 : Int32} {M : Mm} {v : Int32} {M' : Mm} (hl : l.stackTraces = false) (hE : Has shA (eH E)) (h : fw_L_lines_0_120 x1 M = some (v, M')) : MetB l yL_lines cL_lines 4 (some .int) [(0, 8, 11, 22)] 27 E [.ref (eA E 0), .int x1, .ref (eA E 120)] M (some (.int v)) M' := by
  unfold fw_L_lines_0_120 at h
  cases ht : t_X9_lines_0 x1 M with
  | none => rw [ht] at h; exact s_L_lines_0_120 hE h
  | some j =>
    rw [ht] at h
    match j, ht, h with
    | 1, ht, h => cases h; exact w1_L_lines_0_120 hl hE ht
    | 0, ht, h => cases h
    | 2, ht, h => cases h
    | 3, ht, h => cases h
    | n + 4, ht, h => cases h

def fw_L_begin_0 (x1 : Int32) (M : Mm) : Option (Int32 × Mm) := match t_X9_begin_0 x1 M with | some 1 => some ((1 : Int32), M) | some _ => none | none => f_L_begin_0 x1 M
theorem sw_L_begin_0 {l : Launch} {E : Ev} {x1 : Int32} {M : Mm} {v : Int32} {M' : Mm} (hl : l.stackTraces = false) (hE : Has shA (eH E)) (h : fw_L_begin_0 x1 M = some (v, M')) : MetB l yL_begin cL_begin 3 (some .int) [(0, 5, 8, 22)] 8 E [.ref (eA E 0), .int x1] M (some (.int v)) M' := by
  unfold fw_L_begin_0 at h
  cases ht : t_X9_begin_0 x1 M with
  | none => rw [ht] at h; exact s_L_begin_0 hE h
  | some j =>
    rw [ht] at h
    match j, ht, h with
    | 1, ht, h => cases h; exact w1_L_begin_0 hl hE ht
    | 0, ht, h => cases h
    | 2, ht, h => cases h
    | 3, ht, h => cases h
    | n + 4, ht, h => cases h

def fw_L_blow_0_120 (x1 : Int32) (M : Mm) : Option (Int32 × Mm) := match t_X9_blow_0 x1 M with | some 3 => some ((1 : Int32), M) | some _ => none | none => f_L_blow_0_120 x1 M
theorem sw_L_blow_0_120 {l : Launch} {E : Ev} {x1 : Int32} {M : Mm} {v : Int32} {M' : Mm} (hl : l.stackTraces = false) (hE : Has shA (eH E)) (h : fw_L_blow_0_120 x1 M = some (v, M')) : MetB l yL_blow cL_blow 4 (some .int) [(0, 9, 12, 32)] 8 E [.ref (eA E 0), .int x1, .ref (eA E 120)] M (some (.int v)) M' := by
  unfold fw_L_blow_0_120 at h
  cases ht : t_X9_blow_0 x1 M with
  | none => rw [ht] at h; exact s_L_blow_0_120 hE h
  | some j =>
    rw [ht] at h
    match j, ht, h with
    | 3, ht, h => cases h; exact w3_L_blow_0_120 hl hE ht
    | 0, ht, h => cases h
    | 1, ht, h => cases h
    | 2, ht, h => cases h
    | n + 4, ht, h => cases h

def fw_L_file_0_120 (x1 : Int32) (x2 : Int32) (x3 : Int32) (M : Mm) : Option (Int32 × Mm) := match t_X9_file_0 x1 x2 x3 M with | some 2 => some ((1 : Int32), M) | some _ => none | none => f_L_file_0_120 x1 x2 x3 M
theorem sw_L_file_0_120 {l : Launch} {E : Ev} {x1 : Int32} {x2 : Int32} {x3 : Int32} {M : Mm} {v : Int32} {M' : Mm} (hl : l.stackTraces = false) (hE : Has shA (eH E)) (h : fw_L_file_0_120 x1 x2 x3 M = some (v, M')) : MetB l yL_file cL_file 6 (some .int) [(0, 12, 15, 13)] 9 E [.ref (eA E 0), .int x1, .int x2, .int x3, .ref (eA E 120)] M (some (.int v)) M' := by
  unfold fw_L_file_0_120 at h
  cases ht : t_X9_file_0 x1 x2 x3 M with
  | none => rw [ht] at h; exact s_L_file_0_120 hE h
  | some j =>
    rw [ht] at h
    match j, ht, h with
    | 2, ht, h => cases h; exact w2_L_file_0_120 hl hE ht
    | 0, ht, h => cases h
    | 1, ht, h => cases h
    | 3, ht, h => cases h
    | n + 4, ht, h => cases h

def fw_L_punch_0_120 (x1 : Int32) (M : Mm) : Option (Int32 × Mm) := match t_X9_punch_0 x1 M with | some 2 => some ((1 : Int32), M) | some _ => none | none => f_L_punch_0_120 x1 M
theorem sw_L_punch_0_120 {l : Launch} {E : Ev} {x1 : Int32} {M : Mm} {v : Int32} {M' : Mm} (hl : l.stackTraces = false) (hE : Has shA (eH E)) (h : fw_L_punch_0_120 x1 M = some (v, M')) : MetB l yL_punch cL_punch 4 (some .int) [(0, 9, 12, 13)] 8 E [.ref (eA E 0), .int x1, .ref (eA E 120)] M (some (.int v)) M' := by
  unfold fw_L_punch_0_120 at h
  cases ht : t_X9_punch_0 x1 M with
  | none => rw [ht] at h; exact s_L_punch_0_120 hE h
  | some j =>
    rw [ht] at h
    match j, ht, h with
    | 2, ht, h => cases h; exact w2_L_punch_0_120 hl hE ht
    | 0, ht, h => cases h
    | 1, ht, h => cases h
    | 3, ht, h => cases h
    | n + 4, ht, h => cases h

def fw_L_addBlow_0_120 (x1 : Int32) (M : Mm) : Option (Int32 × Mm) := match t_X9_addBlow_0 x1 M with | some 3 => some ((1 : Int32), M) | some _ => none | none => f_L_addBlow_0_120 x1 M
theorem sw_L_addBlow_0_120 {l : Launch} {E : Ev} {x1 : Int32} {M : Mm} {v : Int32} {M' : Mm} (hl : l.stackTraces = false) (hE : Has shA (eH E)) (h : fw_L_addBlow_0_120 x1 M = some (v, M')) : MetB l yL_addBlow cL_addBlow 4 (some .int) [(0, 9, 12, 32)] 8 E [.ref (eA E 0), .int x1, .ref (eA E 120)] M (some (.int v)) M' := by
  unfold fw_L_addBlow_0_120 at h
  cases ht : t_X9_addBlow_0 x1 M with
  | none => rw [ht] at h; exact s_L_addBlow_0_120 hE h
  | some j =>
    rw [ht] at h
    match j, ht, h with
    | 3, ht, h => cases h; exact w3_L_addBlow_0_120 hl hE ht
    | 0, ht, h => cases h
    | 1, ht, h => cases h
    | 2, ht, h => cases h
    | n + 4, ht, h => cases h

def fw_L_addFile_0_120 (x1 : Int32) (x2 : Int32) (x3 : Int32) (M : Mm) : Option (Int32 × Mm) := match t_X9_addFile_0 x1 x2 x3 M with | some 2 => some ((1 : Int32), M) | some _ => none | none => f_L_addFile_0_120 x1 x2 x3 M
theorem sw_L_addFile_0_120 {l : Launch} {E : Ev} {x1 : Int32} {x2 : Int32} {x3 : Int32} {M : Mm} {v : Int32} {M' : Mm} (hl : l.stackTraces = false) (hE : Has shA (eH E)) (h : fw_L_addFile_0_120 x1 x2 x3 M = some (v, M')) : MetB l yL_addFile cL_addFile 6 (some .int) [(0, 12, 15, 13)] 9 E [.ref (eA E 0), .int x1, .int x2, .int x3, .ref (eA E 120)] M (some (.int v)) M' := by
  unfold fw_L_addFile_0_120 at h
  cases ht : t_X9_addFile_0 x1 x2 x3 M with
  | none => rw [ht] at h; exact s_L_addFile_0_120 hE h
  | some j =>
    rw [ht] at h
    match j, ht, h with
    | 2, ht, h => cases h; exact w2_L_addFile_0_120 hl hE ht
    | 0, ht, h => cases h
    | 1, ht, h => cases h
    | 3, ht, h => cases h
    | n + 4, ht, h => cases h

def fw_L_judge_0_120 (x1 : Int32) (x2 : Int32) (M : Mm) : Option (Int32 × Mm) := match t_X9_judge_0 x1 x2 M with | some 1 => some ((1 : Int32), M) | some 2 => some ((2 : Int32), M) | some _ => none | none => f_L_judge_0_120 x1 x2 M
theorem sw_L_judge_0_120 {l : Launch} {E : Ev} {x1 : Int32} {x2 : Int32} {M : Mm} {v : Int32} {M' : Mm} (hl : l.stackTraces = false) (hE : Has shA (eH E)) (h : fw_L_judge_0_120 x1 x2 M = some (v, M')) : MetB l yL_judge cL_judge 5 (some .int) [(0, 10, 13, 22), (0, 10, 17, 13)] 8 E [.ref (eA E 0), .int x1, .int x2, .ref (eA E 120)] M (some (.int v)) M' := by
  unfold fw_L_judge_0_120 at h
  cases ht : t_X9_judge_0 x1 x2 M with
  | none => rw [ht] at h; exact s_L_judge_0_120 hE h
  | some j =>
    rw [ht] at h
    match j, ht, h with
    | 1, ht, h => cases h; exact w1_L_judge_0_120 hl hE ht
    | 2, ht, h => cases h; exact w2_L_judge_0_120 hl hE ht
    | 0, ht, h => cases h
    | 3, ht, h => cases h
    | n + 4, ht, h => cases h

def fw_L_hours_0_120 (x1 : Int32) (x2 : Int32) (x3 : Int32) (M : Mm) : Option (Int32 × Mm) := match t_X9_hours_0 x1 x2 x3 M with | some 1 => some ((1 : Int32), M) | some 2 => some ((2 : Int32), M) | some _ => none | none => f_L_hours_0_120 x1 x2 x3 M
theorem sw_L_hours_0_120 {l : Launch} {E : Ev} {x1 : Int32} {x2 : Int32} {x3 : Int32} {M : Mm} {v : Int32} {M' : Mm} (hl : l.stackTraces = false) (hE : Has shA (eH E)) (h : fw_L_hours_0_120 x1 x2 x3 M = some (v, M')) : MetB l yL_hours cL_hours 6 (some .int) [(0, 11, 14, 22), (0, 11, 18, 13)] 28 E [.ref (eA E 0), .int x1, .int x2, .int x3, .ref (eA E 120)] M (some (.int v)) M' := by
  unfold fw_L_hours_0_120 at h
  cases ht : t_X9_hours_0 x1 x2 x3 M with
  | none => rw [ht] at h; exact s_L_hours_0_120 hE h
  | some j =>
    rw [ht] at h
    match j, ht, h with
    | 1, ht, h => cases h; exact w1_L_hours_0_120 hl hE ht
    | 2, ht, h => cases h; exact w2_L_hours_0_120 hl hE ht
    | 0, ht, h => cases h
    | 3, ht, h => cases h
    | n + 4, ht, h => cases h

def fw_L_order_0_120 (x1 : Int32) (x2 : Int32) (x3 : Int32) (x4 : Int32) (M : Mm) : Option (Int32 × Mm) := match t_X9_order_0 x1 x2 x3 x4 M with | some 1 => some ((1 : Int32), M) | some 2 => some ((2 : Int32), M) | some _ => none | none => f_L_order_0_120 x1 x2 x3 x4 M
theorem sw_L_order_0_120 {l : Launch} {E : Ev} {x1 : Int32} {x2 : Int32} {x3 : Int32} {x4 : Int32} {M : Mm} {v : Int32} {M' : Mm} (hl : l.stackTraces = false) (hE : Has shA (eH E)) (h : fw_L_order_0_120 x1 x2 x3 x4 M = some (v, M')) : MetB l yL_order cL_order 7 (some .int) [(0, 14, 17, 22), (0, 14, 21, 13)] 28 E [.ref (eA E 0), .int x1, .int x2, .int x3, .int x4, .ref (eA E 120)] M (some (.int v)) M' := by
  unfold fw_L_order_0_120 at h
  cases ht : t_X9_order_0 x1 x2 x3 x4 M with
  | none => rw [ht] at h; exact s_L_order_0_120 hE h
  | some j =>
    rw [ht] at h
    match j, ht, h with
    | 1, ht, h => cases h; exact w1_L_order_0_120 hl hE ht
    | 2, ht, h => cases h; exact w2_L_order_0_120 hl hE ht
    | 0, ht, h => cases h
    | 3, ht, h => cases h
    | n + 4, ht, h => cases h

def fw_L_black_0_120 (x1 : Int32) (x2 : Int32) (M : Mm) : Option (Int32 × Mm) := match t_X9_black_0 x1 x2 M with | some 1 => some ((1 : Int32), M) | some 2 => some ((2 : Int32), M) | some _ => none | none => f_L_black_0_120 x1 x2 M
theorem sw_L_black_0_120 {l : Launch} {E : Ev} {x1 : Int32} {x2 : Int32} {M : Mm} {v : Int32} {M' : Mm} (hl : l.stackTraces = false) (hE : Has shA (eH E)) (h : fw_L_black_0_120 x1 x2 M = some (v, M')) : MetB l yL_black cL_black 5 (some .int) [(0, 10, 13, 22), (0, 10, 17, 13)] 8 E [.ref (eA E 0), .int x1, .int x2, .ref (eA E 120)] M (some (.int v)) M' := by
  unfold fw_L_black_0_120 at h
  cases ht : t_X9_black_0 x1 x2 M with
  | none => rw [ht] at h; exact s_L_black_0_120 hE h
  | some j =>
    rw [ht] at h
    match j, ht, h with
    | 1, ht, h => cases h; exact w1_L_black_0_120 hl hE ht
    | 2, ht, h => cases h; exact w2_L_black_0_120 hl hE ht
    | 0, ht, h => cases h
    | 3, ht, h => cases h
    | n + 4, ht, h => cases h

def fw_L_colour_0_120 (x1 : Int32) (x2 : Int32) (x3 : Int32) (M : Mm) : Option (Int32 × Mm) := match t_X9_colour_0 x1 x2 x3 M with | some 3 => some ((1 : Int32), M) | some 2 => some ((2 : Int32), M) | some _ => none | none => f_L_colour_0_120 x1 x2 x3 M
theorem sw_L_colour_0_120 {l : Launch} {E : Ev} {x1 : Int32} {x2 : Int32} {x3 : Int32} {M : Mm} {v : Int32} {M' : Mm} (hl : l.stackTraces = false) (hE : Has shA (eH E)) (h : fw_L_colour_0_120 x1 x2 x3 M = some (v, M')) : MetB l yL_colour cL_colour 6 (some .int) [(0, 12, 15, 32), (0, 12, 19, 13)] 8 E [.ref (eA E 0), .int x1, .int x2, .int x3, .ref (eA E 120)] M (some (.int v)) M' := by
  unfold fw_L_colour_0_120 at h
  cases ht : t_X9_colour_0 x1 x2 x3 M with
  | none => rw [ht] at h; exact s_L_colour_0_120 hE h
  | some j =>
    rw [ht] at h
    match j, ht, h with
    | 3, ht, h => cases h; exact w3_L_colour_0_120 hl hE ht
    | 2, ht, h => cases h; exact w2_L_colour_0_120 hl hE ht
    | 0, ht, h => cases h
    | 1, ht, h => cases h
    | n + 4, ht, h => cases h

def fw_L_uneven_0_120 (x1 : Int32) (x2 : Int32) (M : Mm) : Option (Int32 × Mm) := match t_X9_uneven_0 x1 x2 M with | some 2 => some ((1 : Int32), M) | some _ => none | none => f_L_uneven_0_120 x1 x2 M
theorem sw_L_uneven_0_120 {l : Launch} {E : Ev} {x1 : Int32} {x2 : Int32} {M : Mm} {v : Int32} {M' : Mm} (hl : l.stackTraces = false) (hE : Has shA (eH E)) (h : fw_L_uneven_0_120 x1 x2 M = some (v, M')) : MetB l yL_uneven cL_uneven 5 (some .int) [(0, 10, 13, 13)] 8 E [.ref (eA E 0), .int x1, .int x2, .ref (eA E 120)] M (some (.int v)) M' := by
  unfold fw_L_uneven_0_120 at h
  cases ht : t_X9_uneven_0 x1 x2 M with
  | none => rw [ht] at h; exact s_L_uneven_0_120 hE h
  | some j =>
    rw [ht] at h
    match j, ht, h with
    | 2, ht, h => cases h; exact w2_L_uneven_0_120 hl hE ht
    | 0, ht, h => cases h
    | 1, ht, h => cases h
    | 3, ht, h => cases h
    | n + 4, ht, h => cases h

def fw_L_even_0_120 (x1 : Int32) (M : Mm) : Option (Int32 × Mm) := match t_X9_even_0 x1 M with | some 2 => some ((1 : Int32), M) | some _ => none | none => f_L_even_0_120 x1 M
theorem sw_L_even_0_120 {l : Launch} {E : Ev} {x1 : Int32} {M : Mm} {v : Int32} {M' : Mm} (hl : l.stackTraces = false) (hE : Has shA (eH E)) (h : fw_L_even_0_120 x1 M = some (v, M')) : MetB l yL_even cL_even 4 (some .int) [(0, 9, 12, 13)] 16 E [.ref (eA E 0), .int x1, .ref (eA E 120)] M (some (.int v)) M' := by
  unfold fw_L_even_0_120 at h
  cases ht : t_X9_even_0 x1 M with
  | none => rw [ht] at h; exact s_L_even_0_120 hE h
  | some j =>
    rw [ht] at h
    match j, ht, h with
    | 2, ht, h => cases h; exact w2_L_even_0_120 hl hE ht
    | 0, ht, h => cases h
    | 1, ht, h => cases h
    | 3, ht, h => cases h
    | n + 4, ht, h => cases h

def fw_L_press_0_120 (x1 : Int32) (M : Mm) : Option (Int32 × Mm) := match t_X9_press_0 x1 M with | some 2 => some ((1 : Int32), M) | some _ => none | none => f_L_press_0_120 x1 M
theorem sw_L_press_0_120 {l : Launch} {E : Ev} {x1 : Int32} {M : Mm} {v : Int32} {M' : Mm} (hl : l.stackTraces = false) (hE : Has shA (eH E)) (h : fw_L_press_0_120 x1 M = some (v, M')) : MetB l yL_press cL_press 4 (some .int) [(0, 9, 12, 13)] 8 E [.ref (eA E 0), .int x1, .ref (eA E 120)] M (some (.int v)) M' := by
  unfold fw_L_press_0_120 at h
  cases ht : t_X9_press_0 x1 M with
  | none => rw [ht] at h; exact s_L_press_0_120 hE h
  | some j =>
    rw [ht] at h
    match j, ht, h with
    | 2, ht, h => cases h; exact w2_L_press_0_120 hl hE ht
    | 0, ht, h => cases h
    | 1, ht, h => cases h
    | 3, ht, h => cases h
    | n + 4, ht, h => cases h

def fw_L_print_0_120 (x1 : Int64) (M : Mm) : Option (Int32 × Mm) := match t_X9_print_0 x1 M with | some 2 => some ((1 : Int32), M) | some _ => none | none => f_L_print_0_120 x1 M
theorem sw_L_print_0_120 {l : Launch} {E : Ev} {x1 : Int64} {M : Mm} {v : Int32} {M' : Mm} (hl : l.stackTraces = false) (hE : Has shA (eH E)) (h : fw_L_print_0_120 x1 M = some (v, M')) : MetB l yL_print cL_print 5 (some .int) [(0, 9, 12, 13)] 7 E [.ref (eA E 0), .long x1, .ref (eA E 120)] M (some (.int v)) M' := by
  unfold fw_L_print_0_120 at h
  cases ht : t_X9_print_0 x1 M with
  | none => rw [ht] at h; exact s_L_print_0_120 hE h
  | some j =>
    rw [ht] at h
    match j, ht, h with
    | 2, ht, h => cases h; exact w2_L_print_0_120 hl hE ht
    | 0, ht, h => cases h
    | 1, ht, h => cases h
    | 3, ht, h => cases h
    | n + 4, ht, h => cases h

def fw_L_kin_0_120 (x1 : Int32) (x2 : Int32) (x3 : Int32) (x4 : Int32) (M : Mm) : Option (Int32 × Mm) := match t_X9_kin_0 x1 x2 x3 x4 M with | some 3 => some ((1 : Int32), M) | some 2 => some ((2 : Int32), M) | some _ => none | none => f_L_kin_0_120 x1 x2 x3 x4 M
theorem sw_L_kin_0_120 {l : Launch} {E : Ev} {x1 : Int32} {x2 : Int32} {x3 : Int32} {x4 : Int32} {M : Mm} {v : Int32} {M' : Mm} (hl : l.stackTraces = false) (hE : Has shA (eH E)) (h : fw_L_kin_0_120 x1 x2 x3 x4 M = some (v, M')) : MetB l yL_kin cL_kin 7 (some .int) [(0, 21, 24, 32), (0, 21, 28, 13)] 8 E [.ref (eA E 0), .int x1, .int x2, .int x3, .int x4, .ref (eA E 120)] M (some (.int v)) M' := by
  unfold fw_L_kin_0_120 at h
  cases ht : t_X9_kin_0 x1 x2 x3 x4 M with
  | none => rw [ht] at h; exact s_L_kin_0_120 hE h
  | some j =>
    rw [ht] at h
    match j, ht, h with
    | 3, ht, h => cases h; exact w3_L_kin_0_120 hl hE ht
    | 2, ht, h => cases h; exact w2_L_kin_0_120 hl hE ht
    | 0, ht, h => cases h
    | 1, ht, h => cases h
    | n + 4, ht, h => cases h

def fw_L_partings_0_120 (x1 : Int32) (x2 : Int32) (x3 : Int32) (M : Mm) : Option (Int32 × Mm) := match t_X9_partings_0 x1 x2 x3 M with | some 2 => some ((1 : Int32), M) | some _ => none | none => f_L_partings_0_120 x1 x2 x3 M
theorem sw_L_partings_0_120 {l : Launch} {E : Ev} {x1 : Int32} {x2 : Int32} {x3 : Int32} {M : Mm} {v : Int32} {M' : Mm} (hl : l.stackTraces = false) (hE : Has shA (eH E)) (h : fw_L_partings_0_120 x1 x2 x3 M = some (v, M')) : MetB l yL_partings cL_partings 6 (some .int) [(0, 12, 15, 13)] 8 E [.ref (eA E 0), .int x1, .int x2, .int x3, .ref (eA E 120)] M (some (.int v)) M' := by
  unfold fw_L_partings_0_120 at h
  cases ht : t_X9_partings_0 x1 x2 x3 M with
  | none => rw [ht] at h; exact s_L_partings_0_120 hE h
  | some j =>
    rw [ht] at h
    match j, ht, h with
    | 2, ht, h => cases h; exact w2_L_partings_0_120 hl hE ht
    | 0, ht, h => cases h
    | 1, ht, h => cases h
    | 3, ht, h => cases h
    | n + 4, ht, h => cases h

def fw_L_bars_0_120 (x1 : Int32) (x2 : Int32) (x3 : Int32) (M : Mm) : Option (Int32 × Mm) := match t_X9_bars_0 x1 x2 x3 M with | some 1 => some ((1 : Int32), M) | some 2 => some ((2 : Int32), M) | some _ => none | none => f_L_bars_0_120 x1 x2 x3 M
theorem sw_L_bars_0_120 {l : Launch} {E : Ev} {x1 : Int32} {x2 : Int32} {x3 : Int32} {M : Mm} {v : Int32} {M' : Mm} (hl : l.stackTraces = false) (hE : Has shA (eH E)) (h : fw_L_bars_0_120 x1 x2 x3 M = some (v, M')) : MetB l yL_bars cL_bars 6 (some .int) [(0, 11, 14, 22), (0, 11, 18, 13)] 28 E [.ref (eA E 0), .int x1, .int x2, .int x3, .ref (eA E 120)] M (some (.int v)) M' := by
  unfold fw_L_bars_0_120 at h
  cases ht : t_X9_bars_0 x1 x2 x3 M with
  | none => rw [ht] at h; exact s_L_bars_0_120 hE h
  | some j =>
    rw [ht] at h
    match j, ht, h with
    | 1, ht, h => cases h; exact w1_L_bars_0_120 hl hE ht
    | 2, ht, h => cases h; exact w2_L_bars_0_120 hl hE ht
    | 0, ht, h => cases h
    | 3, ht, h => cases h
    | n + 4, ht, h => cases h

def fw_L_nearest_0_120 (x1 : Int64) (x3 : Int32) (x4 : Int32) (M : Mm) : Option (Int32 × Mm) := match t_X9_nearest_0 x1 x3 x4 M with | some 2 => some ((1 : Int32), M) | some _ => none | none => f_L_nearest_0_120 x1 x3 x4 M
theorem sw_L_nearest_0_120 {l : Launch} {E : Ev} {x1 : Int64} {x3 : Int32} {x4 : Int32} {M : Mm} {v : Int32} {M' : Mm} (hl : l.stackTraces = false) (hE : Has shA (eH E)) (h : fw_L_nearest_0_120 x1 x3 x4 M = some (v, M')) : MetB l yL_nearest cL_nearest 7 (some .int) [(0, 13, 16, 13)] 8 E [.ref (eA E 0), .long x1, .int x3, .int x4, .ref (eA E 120)] M (some (.int v)) M' := by
  unfold fw_L_nearest_0_120 at h
  cases ht : t_X9_nearest_0 x1 x3 x4 M with
  | none => rw [ht] at h; exact s_L_nearest_0_120 hE h
  | some j =>
    rw [ht] at h
    match j, ht, h with
    | 2, ht, h => cases h; exact w2_L_nearest_0_120 hl hE ht
    | 0, ht, h => cases h
    | 1, ht, h => cases h
    | 3, ht, h => cases h
    | n + 4, ht, h => cases h

def fw_L_originals_0_120 (x1 : Int32) (x2 : Int32) (M : Mm) : Option (Int32 × Mm) := match t_X9_originals_0 x1 x2 M with | some 2 => some ((1 : Int32), M) | some _ => none | none => f_L_originals_0_120 x1 x2 M
theorem sw_L_originals_0_120 {l : Launch} {E : Ev} {x1 : Int32} {x2 : Int32} {M : Mm} {v : Int32} {M' : Mm} (hl : l.stackTraces = false) (hE : Has shA (eH E)) (h : fw_L_originals_0_120 x1 x2 M = some (v, M')) : MetB l yL_originals cL_originals 5 (some .int) [(0, 10, 13, 13)] 8 E [.ref (eA E 0), .int x1, .int x2, .ref (eA E 120)] M (some (.int v)) M' := by
  unfold fw_L_originals_0_120 at h
  cases ht : t_X9_originals_0 x1 x2 M with
  | none => rw [ht] at h; exact s_L_originals_0_120 hE h
  | some j =>
    rw [ht] at h
    match j, ht, h with
    | 2, ht, h => cases h; exact w2_L_originals_0_120 hl hE ht
    | 0, ht, h => cases h
    | 1, ht, h => cases h
    | 3, ht, h => cases h
    | n + 4, ht, h => cases h

def fw_L_fount_0_120 (x1 : Int32) (x2 : Int32) (x3 : Int32) (M : Mm) : Option (Int32 × Mm) := match t_X9_fount_0 x1 x2 x3 M with | some 2 => some ((1 : Int32), M) | some _ => none | none => f_L_fount_0_120 x1 x2 x3 M
theorem sw_L_fount_0_120 {l : Launch} {E : Ev} {x1 : Int32} {x2 : Int32} {x3 : Int32} {M : Mm} {v : Int32} {M' : Mm} (hl : l.stackTraces = false) (hE : Has shA (eH E)) (h : fw_L_fount_0_120 x1 x2 x3 M = some (v, M')) : MetB l yL_fount cL_fount 6 (some .int) [(0, 12, 15, 13)] 24 E [.ref (eA E 0), .int x1, .int x2, .int x3, .ref (eA E 120)] M (some (.int v)) M' := by
  unfold fw_L_fount_0_120 at h
  cases ht : t_X9_fount_0 x1 x2 x3 M with
  | none => rw [ht] at h; exact s_L_fount_0_120 hE h
  | some j =>
    rw [ht] at h
    match j, ht, h with
    | 2, ht, h => cases h; exact w2_L_fount_0_120 hl hE ht
    | 0, ht, h => cases h
    | 1, ht, h => cases h
    | 3, ht, h => cases h
    | n + 4, ht, h => cases h

