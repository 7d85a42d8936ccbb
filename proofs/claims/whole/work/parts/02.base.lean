/-! the good words of the tables; every method takes them all -/
def AW : List Cond := lw_tbl.filter goodWord
theorem aw_t {w : Cond} (h : w ∈ tables_1) (g : goodWord w = true) : w ∈ AW := List.mem_filter.mpr ⟨List.mem_append_right _ h, g⟩
theorem aw_p {w : Cond} (h : w ∈ k2_sels lw_privs) (g : goodWord w = true) : w ∈ AW := List.mem_filter.mpr ⟨List.mem_append_left _ h, g⟩
theorem aw_1 {w : Cond} (h : w ∈ tables_1_1) (g : goodWord w = true) : w ∈ AW := aw_t (List.mem_append_left _ h) g
theorem aw_2 {w : Cond} (h : w ∈ tables_1_2) (g : goodWord w = true) : w ∈ AW := aw_t (List.mem_append_right _ (List.mem_append_left _ h)) g
theorem aw_3 {w : Cond} (h : w ∈ tables_1_3) (g : goodWord w = true) : w ∈ AW := aw_t (List.mem_append_right _ (List.mem_append_right _ (List.mem_append_left _ h))) g
theorem aw_4 {w : Cond} (h : w ∈ tables_1_4) (g : goodWord w = true) : w ∈ AW := aw_t (List.mem_append_right _ (List.mem_append_right _ (List.mem_append_right _ (List.mem_append_left _ h)))) g
theorem aw_5 {w : Cond} (h : w ∈ tables_1_5) (g : goodWord w = true) : w ∈ AW := aw_t (List.mem_append_right _ (List.mem_append_right _ (List.mem_append_right _ (List.mem_append_right _ h)))) g
theorem xg {c d : Cond} (h : d ∈ AW) : GoodIn (c :: AW) (d :: AW) := by
  have k : ∀ w ∈ d :: AW, w ∈ AW := fun w hw => (List.mem_cons.mp hw).elim (fun q => q ▸ h) id
  exact fun w hw => ⟨List.mem_cons_of_mem _ (k w hw), good_of_word (List.mem_filter.mp (k w hw)).2⟩
abbrev R_S : String := "SpectrumDesk"
def T_S : u_T := fun k => match k with
  | 0 => ("SpectrumDesk", "matrix", "[[I", true)
  | 1 => ("SpectrumDesk", "given", "[I", true)
  | 2 => ("SpectrumDesk", "sums", "LSpectrumDesk$Sums;", true)
  | 3 => ("SpectrumDesk", "spectrum", "LSpectrumDesk$Spectrum;", true)
  | 4 => ("SpectrumDesk", "printer", "LSpectrumDesk$Printer;", true)
  | 5 => ("SpectrumDesk", "n", "I", false)
  | _ => ("SpectrumDesk", "stale", "Z", false)
def t_S : Nat → FieldType := fun k => match k with
  | 0 => .array (.array .int)
  | 1 => .array .int
  | 2 => .object "SpectrumDesk$Sums"
  | 3 => .object "SpectrumDesk$Spectrum"
  | 4 => .object "SpectrumDesk$Printer"
  | 5 => .int
  | _ => .boolean
theorem n_S : ∀ a, a < 7 → ∀ b, b < 7 → a ≠ b → (T_S a).2.1 ≠ (T_S b).2.1 := by decide +kernel
theorem t_S_ok : ∀ k, k < 7 → parseFieldDescriptor (T_S k).2.2.1 = some (t_S k) := by decide +kernel
theorem k_ac74ca53a2 : (Jvm.Cond.laysFinal "SpectrumDesk" "SpectrumDesk" "matrix" "[[I") ∈ AW := aw_1 (List.mem_of_getElem? (i := 208) (by decide +kernel)) (by decide +kernel)
theorem k_17c0142678 : (Jvm.Cond.laysFinal "SpectrumDesk" "SpectrumDesk" "given" "[I") ∈ AW := aw_1 (List.mem_of_getElem? (i := 210) (by decide +kernel)) (by decide +kernel)
theorem k_aee1005605 : (Jvm.Cond.laysFinal "SpectrumDesk" "SpectrumDesk" "sums" "LSpectrumDesk$Sums;") ∈ AW := aw_1 (List.mem_of_getElem? (i := 212) (by decide +kernel)) (by decide +kernel)
theorem k_6651bbffd0 : (Jvm.Cond.laysFinal "SpectrumDesk" "SpectrumDesk" "spectrum" "LSpectrumDesk$Spectrum;") ∈ AW := aw_1 (List.mem_of_getElem? (i := 214) (by decide +kernel)) (by decide +kernel)
theorem k_bdd9b62c44 : (Jvm.Cond.laysFinal "SpectrumDesk" "SpectrumDesk" "printer" "LSpectrumDesk$Printer;") ∈ AW := aw_1 (List.mem_of_getElem? (i := 216) (by decide +kernel)) (by decide +kernel)
theorem k_8a327984d8 : (Jvm.Cond.lays "SpectrumDesk" "SpectrumDesk" "n" "I") ∈ AW := aw_1 (List.mem_of_getElem? (i := 218) (by decide +kernel)) (by decide +kernel)
theorem k_5667f8c7d6 : (Jvm.Cond.lays "SpectrumDesk" "SpectrumDesk" "stale" "Z") ∈ AW := aw_1 (List.mem_of_getElem? (i := 220) (by decide +kernel)) (by decide +kernel)
theorem fw_S : ∀ w ∈ u_ws R_S T_S 7, w ∈ AW := by
  intro w hw
  obtain ⟨k, hk, rfl⟩ := List.mem_map.mp hw
  have hk := List.mem_range.mp hk
  match k, hk with
  | 0, _ => exact k_ac74ca53a2
  | 1, _ => exact k_17c0142678
  | 2, _ => exact k_aee1005605
  | 3, _ => exact k_6651bbffd0
  | 4, _ => exact k_bdd9b62c44
  | 5, _ => exact k_8a327984d8
  | 6, _ => exact k_5667f8c7d6
theorem fin_S {c : Cond} : ∀ w ∈ u_ws R_S T_S 7, w ∈ c :: AW := fun w h => List.mem_cons_of_mem _ (fw_S w h)
abbrev R_U : String := "SpectrumDesk$Sums"
def T_U : u_T := fun k => match k with
  | 0 => ("SpectrumDesk$Sums", "single", "[I", true)
  | 1 => ("SpectrumDesk$Sums", "paired", "[[I", true)
  | _ => ("SpectrumDesk$Sums", "rows", "I", false)
def t_U : Nat → FieldType := fun k => match k with
  | 0 => .array .int
  | 1 => .array (.array .int)
  | _ => .int
theorem n_U : ∀ a, a < 3 → ∀ b, b < 3 → a ≠ b → (T_U a).2.1 ≠ (T_U b).2.1 := by decide +kernel
theorem t_U_ok : ∀ k, k < 3 → parseFieldDescriptor (T_U k).2.2.1 = some (t_U k) := by decide +kernel
theorem k_65402ed6c8 : (Jvm.Cond.laysFinal "SpectrumDesk$Sums" "SpectrumDesk$Sums" "single" "[I") ∈ AW := aw_1 (List.mem_of_getElem? (i := 48) (by decide +kernel)) (by decide +kernel)
theorem k_abb336511d : (Jvm.Cond.laysFinal "SpectrumDesk$Sums" "SpectrumDesk$Sums" "paired" "[[I") ∈ AW := aw_1 (List.mem_of_getElem? (i := 50) (by decide +kernel)) (by decide +kernel)
theorem k_7d34d9bed9 : (Jvm.Cond.lays "SpectrumDesk$Sums" "SpectrumDesk$Sums" "rows" "I") ∈ AW := aw_1 (List.mem_of_getElem? (i := 52) (by decide +kernel)) (by decide +kernel)
theorem fw_U : ∀ w ∈ u_ws R_U T_U 3, w ∈ AW := by
  intro w hw
  obtain ⟨k, hk, rfl⟩ := List.mem_map.mp hw
  have hk := List.mem_range.mp hk
  match k, hk with
  | 0, _ => exact k_65402ed6c8
  | 1, _ => exact k_abb336511d
  | 2, _ => exact k_7d34d9bed9
theorem fin_U {c : Cond} : ∀ w ∈ u_ws R_U T_U 3, w ∈ c :: AW := fun w h => List.mem_cons_of_mem _ (fw_U w h)
abbrev R_E : String := "SpectrumDesk$Spectrum"
def T_E : u_T := fun k => match k with
  | 0 => ("SpectrumDesk$Spectrum", "blocks", "[LSpectrumDesk$Polynomial;", true)
  | 1 => ("SpectrumDesk$Spectrum", "repeated", "LSpectrumDesk$Polynomial;", true)
  | 2 => ("SpectrumDesk$Spectrum", "fine", "LSpectrumDesk$Polynomial;", true)
  | 3 => ("SpectrumDesk$Spectrum", "probe", "LSpectrumDesk$Polynomial;", true)
  | 4 => ("SpectrumDesk$Spectrum", "inner", "LSpectrumDesk$Polynomial;", true)
  | 5 => ("SpectrumDesk$Spectrum", "innerRepeated", "LSpectrumDesk$Polynomial;", true)
  | 6 => ("SpectrumDesk$Spectrum", "border", "LSpectrumDesk$Border;", true)
  | 7 => ("SpectrumDesk$Spectrum", "euclid", "LSpectrumDesk$Euclid;", true)
  | 8 => ("SpectrumDesk$Spectrum", "cells", "[J", true)
  | 9 => ("SpectrumDesk$Spectrum", "cellKnown", "[Z", true)
  | 10 => ("SpectrumDesk$Spectrum", "repeatedKnown", "Z", false)
  | 11 => ("SpectrumDesk$Spectrum", "n", "I", false)
  | 12 => ("SpectrumDesk$Spectrum", "bound", "I", false)
  | _ => ("SpectrumDesk$Spectrum", "trace", "J", false)
def t_E : Nat → FieldType := fun k => match k with
  | 0 => .array (.object "SpectrumDesk$Polynomial")
  | 1 => .object "SpectrumDesk$Polynomial"
  | 2 => .object "SpectrumDesk$Polynomial"
  | 3 => .object "SpectrumDesk$Polynomial"
  | 4 => .object "SpectrumDesk$Polynomial"
  | 5 => .object "SpectrumDesk$Polynomial"
  | 6 => .object "SpectrumDesk$Border"
  | 7 => .object "SpectrumDesk$Euclid"
  | 8 => .array .long
  | 9 => .array .boolean
  | 10 => .boolean
  | 11 => .int
  | 12 => .int
  | _ => .long
theorem n_E : ∀ a, a < 14 → ∀ b, b < 14 → a ≠ b → (T_E a).2.1 ≠ (T_E b).2.1 := by decide +kernel
theorem t_E_ok : ∀ k, k < 14 → parseFieldDescriptor (T_E k).2.2.1 = some (t_E k) := by decide +kernel
theorem k_3595d11100 : (Jvm.Cond.laysFinal "SpectrumDesk$Spectrum" "SpectrumDesk$Spectrum" "blocks" "[LSpectrumDesk$Polynomial;") ∈ AW := aw_1 (List.mem_of_getElem? (i := 148) (by decide +kernel)) (by decide +kernel)
theorem k_c049a52341 : (Jvm.Cond.laysFinal "SpectrumDesk$Spectrum" "SpectrumDesk$Spectrum" "repeated" "LSpectrumDesk$Polynomial;") ∈ AW := aw_1 (List.mem_of_getElem? (i := 150) (by decide +kernel)) (by decide +kernel)
theorem k_4fc12ca64c : (Jvm.Cond.laysFinal "SpectrumDesk$Spectrum" "SpectrumDesk$Spectrum" "fine" "LSpectrumDesk$Polynomial;") ∈ AW := aw_1 (List.mem_of_getElem? (i := 152) (by decide +kernel)) (by decide +kernel)
theorem k_02db5a9147 : (Jvm.Cond.laysFinal "SpectrumDesk$Spectrum" "SpectrumDesk$Spectrum" "probe" "LSpectrumDesk$Polynomial;") ∈ AW := aw_1 (List.mem_of_getElem? (i := 154) (by decide +kernel)) (by decide +kernel)
theorem k_8d5137de43 : (Jvm.Cond.laysFinal "SpectrumDesk$Spectrum" "SpectrumDesk$Spectrum" "inner" "LSpectrumDesk$Polynomial;") ∈ AW := aw_1 (List.mem_of_getElem? (i := 156) (by decide +kernel)) (by decide +kernel)
theorem k_3a0921f545 : (Jvm.Cond.laysFinal "SpectrumDesk$Spectrum" "SpectrumDesk$Spectrum" "innerRepeated" "LSpectrumDesk$Polynomial;") ∈ AW := aw_1 (List.mem_of_getElem? (i := 158) (by decide +kernel)) (by decide +kernel)
theorem k_c27f1a3858 : (Jvm.Cond.laysFinal "SpectrumDesk$Spectrum" "SpectrumDesk$Spectrum" "border" "LSpectrumDesk$Border;") ∈ AW := aw_1 (List.mem_of_getElem? (i := 160) (by decide +kernel)) (by decide +kernel)
theorem k_1542c45d60 : (Jvm.Cond.laysFinal "SpectrumDesk$Spectrum" "SpectrumDesk$Spectrum" "euclid" "LSpectrumDesk$Euclid;") ∈ AW := aw_1 (List.mem_of_getElem? (i := 162) (by decide +kernel)) (by decide +kernel)
theorem k_3c6a07a1c8 : (Jvm.Cond.laysFinal "SpectrumDesk$Spectrum" "SpectrumDesk$Spectrum" "cells" "[J") ∈ AW := aw_1 (List.mem_of_getElem? (i := 164) (by decide +kernel)) (by decide +kernel)
theorem k_2908d444bd : (Jvm.Cond.laysFinal "SpectrumDesk$Spectrum" "SpectrumDesk$Spectrum" "cellKnown" "[Z") ∈ AW := aw_1 (List.mem_of_getElem? (i := 166) (by decide +kernel)) (by decide +kernel)
theorem k_424938fd00 : (Jvm.Cond.lays "SpectrumDesk$Spectrum" "SpectrumDesk$Spectrum" "repeatedKnown" "Z") ∈ AW := aw_1 (List.mem_of_getElem? (i := 168) (by decide +kernel)) (by decide +kernel)
theorem k_95022299bb : (Jvm.Cond.lays "SpectrumDesk$Spectrum" "SpectrumDesk$Spectrum" "n" "I") ∈ AW := aw_1 (List.mem_of_getElem? (i := 170) (by decide +kernel)) (by decide +kernel)
theorem k_bb6a15222e : (Jvm.Cond.lays "SpectrumDesk$Spectrum" "SpectrumDesk$Spectrum" "bound" "I") ∈ AW := aw_1 (List.mem_of_getElem? (i := 172) (by decide +kernel)) (by decide +kernel)
theorem k_eea58785a3 : (Jvm.Cond.lays "SpectrumDesk$Spectrum" "SpectrumDesk$Spectrum" "trace" "J") ∈ AW := aw_1 (List.mem_of_getElem? (i := 174) (by decide +kernel)) (by decide +kernel)
theorem fw_E : ∀ w ∈ u_ws R_E T_E 14, w ∈ AW := by
  intro w hw
  obtain ⟨k, hk, rfl⟩ := List.mem_map.mp hw
  have hk := List.mem_range.mp hk
  match k, hk with
  | 0, _ => exact k_3595d11100
  | 1, _ => exact k_c049a52341
  | 2, _ => exact k_4fc12ca64c
  | 3, _ => exact k_02db5a9147
  | 4, _ => exact k_8d5137de43
  | 5, _ => exact k_3a0921f545
  | 6, _ => exact k_c27f1a3858
  | 7, _ => exact k_1542c45d60
  | 8, _ => exact k_3c6a07a1c8
  | 9, _ => exact k_2908d444bd
  | 10, _ => exact k_424938fd00
  | 11, _ => exact k_95022299bb
  | 12, _ => exact k_bb6a15222e
  | 13, _ => exact k_eea58785a3
theorem fin_E {c : Cond} : ∀ w ∈ u_ws R_E T_E 14, w ∈ c :: AW := fun w h => List.mem_cons_of_mem _ (fw_E w h)
abbrev R_P : String := "SpectrumDesk$Polynomial"
def T_P : u_T := fun k => match k with
  | 0 => ("SpectrumDesk$Polynomial", "c", "[[I", true)
  | 1 => ("SpectrumDesk$Polynomial", "spare", "[I", true)
  | 2 => ("SpectrumDesk$Polynomial", "degree", "I", false)
  | _ => ("SpectrumDesk$Polynomial", "limbs", "I", false)
def t_P : Nat → FieldType := fun k => match k with
  | 0 => .array (.array .int)
  | 1 => .array .int
  | 2 => .int
  | _ => .int
theorem n_P : ∀ a, a < 4 → ∀ b, b < 4 → a ≠ b → (T_P a).2.1 ≠ (T_P b).2.1 := by decide +kernel
theorem t_P_ok : ∀ k, k < 4 → parseFieldDescriptor (T_P k).2.2.1 = some (t_P k) := by decide +kernel
theorem k_00d427be68 : (Jvm.Cond.laysFinal "SpectrumDesk$Polynomial" "SpectrumDesk$Polynomial" "c" "[[I") ∈ AW := aw_1 (List.mem_of_getElem? (i := 85) (by decide +kernel)) (by decide +kernel)
theorem k_2315bbbb5d : (Jvm.Cond.laysFinal "SpectrumDesk$Polynomial" "SpectrumDesk$Polynomial" "spare" "[I") ∈ AW := aw_1 (List.mem_of_getElem? (i := 87) (by decide +kernel)) (by decide +kernel)
theorem k_5aa5399019 : (Jvm.Cond.lays "SpectrumDesk$Polynomial" "SpectrumDesk$Polynomial" "degree" "I") ∈ AW := aw_1 (List.mem_of_getElem? (i := 89) (by decide +kernel)) (by decide +kernel)
theorem k_cffe1686d7 : (Jvm.Cond.lays "SpectrumDesk$Polynomial" "SpectrumDesk$Polynomial" "limbs" "I") ∈ AW := aw_1 (List.mem_of_getElem? (i := 91) (by decide +kernel)) (by decide +kernel)
theorem fw_P : ∀ w ∈ u_ws R_P T_P 4, w ∈ AW := by
  intro w hw
  obtain ⟨k, hk, rfl⟩ := List.mem_map.mp hw
  have hk := List.mem_range.mp hk
  match k, hk with
  | 0, _ => exact k_00d427be68
  | 1, _ => exact k_2315bbbb5d
  | 2, _ => exact k_5aa5399019
  | 3, _ => exact k_cffe1686d7
theorem fin_P {c : Cond} : ∀ w ∈ u_ws R_P T_P 4, w ∈ c :: AW := fun w h => List.mem_cons_of_mem _ (fw_P w h)
abbrev R_B : String := "SpectrumDesk$Border"
def T_B : u_T := fun k => match k with
  | 0 => ("SpectrumDesk$Border", "vector", "[[I", true)
  | _ => ("SpectrumDesk$Border", "next", "[[I", true)
def t_B : Nat → FieldType := fun k => match k with
  | 0 => .array (.array .int)
  | _ => .array (.array .int)
theorem n_B : ∀ a, a < 2 → ∀ b, b < 2 → a ≠ b → (T_B a).2.1 ≠ (T_B b).2.1 := by decide +kernel
theorem t_B_ok : ∀ k, k < 2 → parseFieldDescriptor (T_B k).2.2.1 = some (t_B k) := by decide +kernel
theorem k_c35a091c1a : (Jvm.Cond.laysFinal "SpectrumDesk$Border" "SpectrumDesk$Border" "vector" "[[I") ∈ AW := aw_1 (List.mem_of_getElem? (i := 110) (by decide +kernel)) (by decide +kernel)
theorem k_e5b583f0e2 : (Jvm.Cond.laysFinal "SpectrumDesk$Border" "SpectrumDesk$Border" "next" "[[I") ∈ AW := aw_1 (List.mem_of_getElem? (i := 112) (by decide +kernel)) (by decide +kernel)
theorem fw_B : ∀ w ∈ u_ws R_B T_B 2, w ∈ AW := by
  intro w hw
  obtain ⟨k, hk, rfl⟩ := List.mem_map.mp hw
  have hk := List.mem_range.mp hk
  match k, hk with
  | 0, _ => exact k_c35a091c1a
  | 1, _ => exact k_e5b583f0e2
theorem fin_B {c : Cond} : ∀ w ∈ u_ws R_B T_B 2, w ∈ c :: AW := fun w h => List.mem_cons_of_mem _ (fw_B w h)
abbrev R_C : String := "SpectrumDesk$Euclid"
def T_C : u_T := fun k => match k with
  | 0 => ("SpectrumDesk$Euclid", "first", "LSpectrumDesk$Polynomial;", true)
  | 1 => ("SpectrumDesk$Euclid", "second", "LSpectrumDesk$Polynomial;", true)
  | _ => ("SpectrumDesk$Euclid", "divisor", "[I", true)
def t_C : Nat → FieldType := fun k => match k with
  | 0 => .object "SpectrumDesk$Polynomial"
  | 1 => .object "SpectrumDesk$Polynomial"
  | _ => .array .int
theorem n_C : ∀ a, a < 3 → ∀ b, b < 3 → a ≠ b → (T_C a).2.1 ≠ (T_C b).2.1 := by decide +kernel
theorem t_C_ok : ∀ k, k < 3 → parseFieldDescriptor (T_C k).2.2.1 = some (t_C k) := by decide +kernel
theorem k_806aad2331 : (Jvm.Cond.laysFinal "SpectrumDesk$Euclid" "SpectrumDesk$Euclid" "first" "LSpectrumDesk$Polynomial;") ∈ AW := aw_1 (List.mem_of_getElem? (i := 126) (by decide +kernel)) (by decide +kernel)
theorem k_9c600eeba6 : (Jvm.Cond.laysFinal "SpectrumDesk$Euclid" "SpectrumDesk$Euclid" "second" "LSpectrumDesk$Polynomial;") ∈ AW := aw_1 (List.mem_of_getElem? (i := 128) (by decide +kernel)) (by decide +kernel)
theorem k_b576ffd9f2 : (Jvm.Cond.laysFinal "SpectrumDesk$Euclid" "SpectrumDesk$Euclid" "divisor" "[I") ∈ AW := aw_1 (List.mem_of_getElem? (i := 130) (by decide +kernel)) (by decide +kernel)
theorem fw_C : ∀ w ∈ u_ws R_C T_C 3, w ∈ AW := by
  intro w hw
  obtain ⟨k, hk, rfl⟩ := List.mem_map.mp hw
  have hk := List.mem_range.mp hk
  match k, hk with
  | 0, _ => exact k_806aad2331
  | 1, _ => exact k_9c600eeba6
  | 2, _ => exact k_b576ffd9f2
theorem fin_C {c : Cond} : ∀ w ∈ u_ws R_C T_C 3, w ∈ c :: AW := fun w h => List.mem_cons_of_mem _ (fw_C w h)
abbrev R_R : String := "SpectrumDesk$Printer"
def T_R : u_T := fun k => match k with
  | 0 => ("SpectrumDesk$Printer", "text", "[C", true)
  | 1 => ("SpectrumDesk$Printer", "digits", "[I", true)
  | 2 => ("SpectrumDesk$Printer", "rest", "[I", true)
  | _ => ("SpectrumDesk$Printer", "length", "I", false)
def t_R : Nat → FieldType := fun k => match k with
  | 0 => .array .char
  | 1 => .array .int
  | 2 => .array .int
  | _ => .int
theorem n_R : ∀ a, a < 4 → ∀ b, b < 4 → a ≠ b → (T_R a).2.1 ≠ (T_R b).2.1 := by decide +kernel
theorem t_R_ok : ∀ k, k < 4 → parseFieldDescriptor (T_R k).2.2.1 = some (t_R k) := by decide +kernel
theorem k_4a422192e9 : (Jvm.Cond.laysFinal "SpectrumDesk$Printer" "SpectrumDesk$Printer" "text" "[C") ∈ AW := aw_1 (List.mem_of_getElem? (i := 191) (by decide +kernel)) (by decide +kernel)
theorem k_0ed47bcff3 : (Jvm.Cond.laysFinal "SpectrumDesk$Printer" "SpectrumDesk$Printer" "digits" "[I") ∈ AW := aw_1 (List.mem_of_getElem? (i := 193) (by decide +kernel)) (by decide +kernel)
theorem k_626d1e33f8 : (Jvm.Cond.laysFinal "SpectrumDesk$Printer" "SpectrumDesk$Printer" "rest" "[I") ∈ AW := aw_1 (List.mem_of_getElem? (i := 195) (by decide +kernel)) (by decide +kernel)
theorem k_4a99df3542 : (Jvm.Cond.lays "SpectrumDesk$Printer" "SpectrumDesk$Printer" "length" "I") ∈ AW := aw_1 (List.mem_of_getElem? (i := 197) (by decide +kernel)) (by decide +kernel)
theorem fw_R : ∀ w ∈ u_ws R_R T_R 4, w ∈ AW := by
  intro w hw
  obtain ⟨k, hk, rfl⟩ := List.mem_map.mp hw
  have hk := List.mem_range.mp hk
  match k, hk with
  | 0, _ => exact k_4a422192e9
  | 1, _ => exact k_0ed47bcff3
  | 2, _ => exact k_626d1e33f8
  | 3, _ => exact k_4a99df3542
theorem fin_R {c : Cond} : ∀ w ∈ u_ws R_R T_R 4, w ∈ c :: AW := fun w h => List.mem_cons_of_mem _ (fw_R w h)
abbrev R_M : String := "SpectrumDeskModel"
def T_M : u_T := fun k => match k with
  | 0 => ("SpectrumDeskModel", "parts", "[I", true)
  | 1 => ("SpectrumDeskModel", "lengths", "[I", true)
  | 2 => ("SpectrumDeskModel", "minus", "[Z", true)
  | 3 => ("SpectrumDeskModel", "degrees", "[I", true)
  | 4 => ("SpectrumDeskModel", "thrown", "I", false)
  | 5 => ("SpectrumDeskModel", "n", "I", false)
  | 6 => ("SpectrumDeskModel", "matrix", "[I", true)
  | 7 => ("SpectrumDeskModel", "data", "[I", true)
  | 8 => ("SpectrumDeskModel", "rows", "I", false)
  | 9 => ("SpectrumDeskModel", "printed", "[I", true)
  | 10 => ("SpectrumDeskModel", "printedSize", "I", false)
  | 11 => ("SpectrumDeskModel", "digits", "[I", true)
  | 12 => ("SpectrumDeskModel", "less", "I", false)
  | _ => ("SpectrumDeskModel", "equal", "I", false)
def t_M : Nat → FieldType := fun k => match k with
  | 0 => .array .int
  | 1 => .array .int
  | 2 => .array .boolean
  | 3 => .array .int
  | 4 => .int
  | 5 => .int
  | 6 => .array .int
  | 7 => .array .int
  | 8 => .int
  | 9 => .array .int
  | 10 => .int
  | 11 => .array .int
  | 12 => .int
  | _ => .int
theorem n_M : ∀ a, a < 14 → ∀ b, b < 14 → a ≠ b → (T_M a).2.1 ≠ (T_M b).2.1 := by decide +kernel
theorem t_M_ok : ∀ k, k < 14 → parseFieldDescriptor (T_M k).2.2.1 = some (t_M k) := by decide +kernel
theorem k_e569212bd4 : (Jvm.Cond.laysFinal "SpectrumDeskModel" "SpectrumDeskModel" "parts" "[I") ∈ AW := aw_4 (List.mem_of_getElem? (i := 194) (by decide +kernel)) (by decide +kernel)
theorem k_b160cd46aa : (Jvm.Cond.laysFinal "SpectrumDeskModel" "SpectrumDeskModel" "lengths" "[I") ∈ AW := aw_4 (List.mem_of_getElem? (i := 196) (by decide +kernel)) (by decide +kernel)
theorem k_7341ba7d64 : (Jvm.Cond.laysFinal "SpectrumDeskModel" "SpectrumDeskModel" "minus" "[Z") ∈ AW := aw_4 (List.mem_of_getElem? (i := 198) (by decide +kernel)) (by decide +kernel)
theorem k_b7e5360cb7 : (Jvm.Cond.laysFinal "SpectrumDeskModel" "SpectrumDeskModel" "degrees" "[I") ∈ AW := aw_4 (List.mem_of_getElem? (i := 200) (by decide +kernel)) (by decide +kernel)
theorem k_c348b3e7c3 : (Jvm.Cond.lays "SpectrumDeskModel" "SpectrumDeskModel" "thrown" "I") ∈ AW := aw_4 (List.mem_of_getElem? (i := 202) (by decide +kernel)) (by decide +kernel)
theorem k_f2a1c7d050 : (Jvm.Cond.lays "SpectrumDeskModel" "SpectrumDeskModel" "n" "I") ∈ AW := aw_4 (List.mem_of_getElem? (i := 204) (by decide +kernel)) (by decide +kernel)
theorem k_1a66ab061b : (Jvm.Cond.laysFinal "SpectrumDeskModel" "SpectrumDeskModel" "matrix" "[I") ∈ AW := aw_4 (List.mem_of_getElem? (i := 206) (by decide +kernel)) (by decide +kernel)
theorem k_da63b5dbd3 : (Jvm.Cond.laysFinal "SpectrumDeskModel" "SpectrumDeskModel" "data" "[I") ∈ AW := aw_4 (List.mem_of_getElem? (i := 208) (by decide +kernel)) (by decide +kernel)
theorem k_5fce158635 : (Jvm.Cond.lays "SpectrumDeskModel" "SpectrumDeskModel" "rows" "I") ∈ AW := aw_4 (List.mem_of_getElem? (i := 210) (by decide +kernel)) (by decide +kernel)
theorem k_1fc4da73ee : (Jvm.Cond.laysFinal "SpectrumDeskModel" "SpectrumDeskModel" "printed" "[I") ∈ AW := aw_4 (List.mem_of_getElem? (i := 212) (by decide +kernel)) (by decide +kernel)
theorem k_e6ad21fbf4 : (Jvm.Cond.lays "SpectrumDeskModel" "SpectrumDeskModel" "printedSize" "I") ∈ AW := aw_4 (List.mem_of_getElem? (i := 214) (by decide +kernel)) (by decide +kernel)
theorem k_b066e3c72f : (Jvm.Cond.laysFinal "SpectrumDeskModel" "SpectrumDeskModel" "digits" "[I") ∈ AW := aw_4 (List.mem_of_getElem? (i := 216) (by decide +kernel)) (by decide +kernel)
theorem k_07865fd9a3 : (Jvm.Cond.lays "SpectrumDeskModel" "SpectrumDeskModel" "less" "I") ∈ AW := aw_4 (List.mem_of_getElem? (i := 218) (by decide +kernel)) (by decide +kernel)
theorem k_04ca3567c2 : (Jvm.Cond.lays "SpectrumDeskModel" "SpectrumDeskModel" "equal" "I") ∈ AW := aw_4 (List.mem_of_getElem? (i := 220) (by decide +kernel)) (by decide +kernel)
theorem fw_M : ∀ w ∈ u_ws R_M T_M 14, w ∈ AW := by
  intro w hw
  obtain ⟨k, hk, rfl⟩ := List.mem_map.mp hw
  have hk := List.mem_range.mp hk
  match k, hk with
  | 0, _ => exact k_e569212bd4
  | 1, _ => exact k_b160cd46aa
  | 2, _ => exact k_7341ba7d64
  | 3, _ => exact k_b7e5360cb7
  | 4, _ => exact k_c348b3e7c3
  | 5, _ => exact k_f2a1c7d050
  | 6, _ => exact k_1a66ab061b
  | 7, _ => exact k_da63b5dbd3
  | 8, _ => exact k_5fce158635
  | 9, _ => exact k_1fc4da73ee
  | 10, _ => exact k_e6ad21fbf4
  | 11, _ => exact k_b066e3c72f
  | 12, _ => exact k_07865fd9a3
  | 13, _ => exact k_04ca3567c2
theorem fin_M {c : Cond} : ∀ w ∈ u_ws R_M T_M 14, w ∈ c :: AW := fun w h => List.mem_cons_of_mem _ (fw_M w h)
abbrev classes : List vw_C := [(R_S, T_S, 7), (R_U, T_U, 3), (R_E, T_E, 14), (R_P, T_P, 4), (R_B, T_B, 2), (R_C, T_C, 3), (R_R, T_R, 4), (R_M, T_M, 14)]
abbrev ciS : Nat := 0
abbrev ciU : Nat := 1
abbrev ciE : Nat := 2
abbrev ciP : Nat := 3
abbrev ciB : Nat := 4
abbrev ciC : Nat := 5
abbrev ciR : Nat := 6
abbrev ciM : Nat := 7
