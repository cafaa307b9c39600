/-! ===== the heap as functions of cell numbers; the judgements Wx and Cx ===== -/
def cl_all : List vw_C := [(RX0, TX0, 1), (RX1, TX1, 10), (RX2, TX2, 11), (RX3, TX3, 7), (RX4, TX4, 17), (RX5, TX5, 5), (RX6, TX6, 5), (RX7, TX7, 11), (RX8, TX8, 13), (RX9, TX9, 5), (RX10, TX10, 14), (RX11, TX11, 16), (RX12, TX12, 6), (RX13, TX13, 12), (RX14, TX14, 91)]
def cl_ty (ci : Nat) : Nat → FieldType := match ci with
  | 0 => tyX0
  | 1 => tyX1
  | 2 => tyX2
  | 3 => tyX3
  | 4 => tyX4
  | 5 => tyX5
  | 6 => tyX6
  | 7 => tyX7
  | 8 => tyX8
  | 9 => tyX9
  | 10 => tyX10
  | 11 => tyX11
  | 12 => tyX12
  | 13 => tyX13
  | _ => tyX14
def cl_n (ci : Nat) : Nat := match ci with
  | 0 => 1
  | 1 => 10
  | 2 => 11
  | 3 => 7
  | 4 => 17
  | 5 => 5
  | 6 => 5
  | 7 => 11
  | 8 => 13
  | 9 => 5
  | 10 => 14
  | 11 => 16
  | 12 => 6
  | 13 => 12
  | _ => 91
def gw : List Cond := lw_tbl.filter goodWord
def isNest : Cond → Bool
  | .fieldLinkNest .. => true
  | .methodLinkNest .. => true
  | _ => false
def nw : List Cond := lw_tbl.filter isNest
theorem gw_at (i : Nat) {w : Cond} (h : lw_tbl[i]? = some w) (hg : goodWord w = true) : w ∈ gw := List.mem_filter.mpr ⟨List.mem_of_getElem? h, hg⟩
theorem nw_at (i : Nat) {w : Cond} (h : lw_tbl[i]? = some w) (hg : isNest w = true) : w ∈ nw := List.mem_filter.mpr ⟨List.mem_of_getElem? h, hg⟩
theorem gw_good : GoodIn gw gw := fun w h => ⟨h, good_of_word (List.mem_filter.mp h).2⟩
theorem gw_tbl {w : Cond} (h : w ∈ gw) : w ∈ lw_tbl := (List.mem_filter.mp h).1
theorem nw_tbl {w : Cond} (h : w ∈ nw) : w ∈ lw_tbl := (List.mem_filter.mp h).1
set_option maxRecDepth 20000 in
theorem cin_0 : ∀ w ∈ u_ws RX0 TX0 1, w ∈ gw := fun w h => (fun q : GoodIn lw_tbl (u_ws RX0 TX0 1) => List.mem_filter.mpr ⟨(q w h).1, by rcases (q w h).2 with z | ⟨ty, rfl⟩ <;> first | rfl | (revert z; cases w <;> first | exact id | (intro; rfl))⟩) (goodIn_r _ [589] (by decide +kernel) (by decide +kernel))
set_option maxRecDepth 20000 in
theorem cin_1 : ∀ w ∈ u_ws RX1 TX1 10, w ∈ gw := fun w h => (fun q : GoodIn lw_tbl (u_ws RX1 TX1 10) => List.mem_filter.mpr ⟨(q w h).1, by rcases (q w h).2 with z | ⟨ty, rfl⟩ <;> first | rfl | (revert z; cases w <;> first | exact id | (intro; rfl))⟩) (goodIn_r _ [553, 555, 557, 559, 561, 563, 565, 567, 569, 571] (by decide +kernel) (by decide +kernel))
set_option maxRecDepth 20000 in
theorem cin_2 : ∀ w ∈ u_ws RX2 TX2 11, w ∈ gw := fun w h => (fun q : GoodIn lw_tbl (u_ws RX2 TX2 11) => List.mem_filter.mpr ⟨(q w h).1, by rcases (q w h).2 with z | ⟨ty, rfl⟩ <;> first | rfl | (revert z; cases w <;> first | exact id | (intro; rfl))⟩) (goodIn_r _ [740, 742, 744, 746, 748, 750, 752, 754, 756, 758, 760] (by decide +kernel) (by decide +kernel))
set_option maxRecDepth 20000 in
theorem cin_3 : ∀ w ∈ u_ws RX3 TX3 7, w ∈ gw := fun w h => (fun q : GoodIn lw_tbl (u_ws RX3 TX3 7) => List.mem_filter.mpr ⟨(q w h).1, by rcases (q w h).2 with z | ⟨ty, rfl⟩ <;> first | rfl | (revert z; cases w <;> first | exact id | (intro; rfl))⟩) (goodIn_r _ [520, 522, 524, 526, 528, 530, 532] (by decide +kernel) (by decide +kernel))
set_option maxRecDepth 20000 in
theorem cin_4 : ∀ w ∈ u_ws RX4 TX4 17, w ∈ gw := fun w h => (fun q : GoodIn lw_tbl (u_ws RX4 TX4 17) => List.mem_filter.mpr ⟨(q w h).1, by rcases (q w h).2 with z | ⟨ty, rfl⟩ <;> first | rfl | (revert z; cases w <;> first | exact id | (intro; rfl))⟩) (goodIn_r _ [641, 643, 645, 647, 649, 651, 653, 655, 657, 659, 661, 663, 665, 667, 669, 671, 673] (by decide +kernel) (by decide +kernel))
set_option maxRecDepth 20000 in
theorem cin_5 : ∀ w ∈ u_ws RX5 TX5 5, w ∈ gw := fun w h => (fun q : GoodIn lw_tbl (u_ws RX5 TX5 5) => List.mem_filter.mpr ⟨(q w h).1, by rcases (q w h).2 with z | ⟨ty, rfl⟩ <;> first | rfl | (revert z; cases w <;> first | exact id | (intro; rfl))⟩) (goodIn_r _ [419, 421, 423, 425, 427] (by decide +kernel) (by decide +kernel))
set_option maxRecDepth 20000 in
theorem cin_6 : ∀ w ∈ u_ws RX6 TX6 5, w ∈ gw := fun w h => (fun q : GoodIn lw_tbl (u_ws RX6 TX6 5) => List.mem_filter.mpr ⟨(q w h).1, by rcases (q w h).2 with z | ⟨ty, rfl⟩ <;> first | rfl | (revert z; cases w <;> first | exact id | (intro; rfl))⟩) (goodIn_r _ [779, 781, 783, 785, 787] (by decide +kernel) (by decide +kernel))
set_option maxRecDepth 20000 in
theorem cin_7 : ∀ w ∈ u_ws RX7 TX7 11, w ∈ gw := fun w h => (fun q : GoodIn lw_tbl (u_ws RX7 TX7 11) => List.mem_filter.mpr ⟨(q w h).1, by rcases (q w h).2 with z | ⟨ty, rfl⟩ <;> first | rfl | (revert z; cases w <;> first | exact id | (intro; rfl))⟩) (goodIn_r _ [696, 698, 700, 702, 704, 706, 708, 710, 712, 714, 716] (by decide +kernel) (by decide +kernel))
set_option maxRecDepth 20000 in
theorem cin_8 : ∀ w ∈ u_ws RX8 TX8 13, w ∈ gw := fun w h => (fun q : GoodIn lw_tbl (u_ws RX8 TX8 13) => List.mem_filter.mpr ⟨(q w h).1, by rcases (q w h).2 with z | ⟨ty, rfl⟩ <;> first | rfl | (revert z; cases w <;> first | exact id | (intro; rfl))⟩) (goodIn_r _ [480, 482, 484, 486, 488, 490, 492, 494, 496, 498, 500, 502, 504] (by decide +kernel) (by decide +kernel))
set_option maxRecDepth 20000 in
theorem cin_9 : ∀ w ∈ u_ws RX9 TX9 5, w ∈ gw := fun w h => (fun q : GoodIn lw_tbl (u_ws RX9 TX9 5) => List.mem_filter.mpr ⟨(q w h).1, by rcases (q w h).2 with z | ⟨ty, rfl⟩ <;> first | rfl | (revert z; cases w <;> first | exact id | (intro; rfl))⟩) (goodIn_r _ [396, 398, 400, 402, 404] (by decide +kernel) (by decide +kernel))
set_option maxRecDepth 20000 in
theorem cin_10 : ∀ w ∈ u_ws RX10 TX10 14, w ∈ gw := fun w h => (fun q : GoodIn lw_tbl (u_ws RX10 TX10 14) => List.mem_filter.mpr ⟨(q w h).1, by rcases (q w h).2 with z | ⟨ty, rfl⟩ <;> first | rfl | (revert z; cases w <;> first | exact id | (intro; rfl))⟩) (goodIn_r _ [353, 355, 357, 359, 361, 363, 365, 367, 369, 371, 373, 375, 377, 379] (by decide +kernel) (by decide +kernel))
set_option maxRecDepth 20000 in
theorem cin_11 : ∀ w ∈ u_ws RX11 TX11 16, w ∈ gw := fun w h => (fun q : GoodIn lw_tbl (u_ws RX11 TX11 16) => List.mem_filter.mpr ⟨(q w h).1, by rcases (q w h).2 with z | ⟨ty, rfl⟩ <;> first | rfl | (revert z; cases w <;> first | exact id | (intro; rfl))⟩) (goodIn_r _ [806, 808, 810, 812, 814, 816, 818, 820, 822, 824, 826, 828, 830, 832, 834, 836] (by decide +kernel) (by decide +kernel))
set_option maxRecDepth 20000 in
theorem cin_12 : ∀ w ∈ u_ws RX12 TX12 6, w ∈ gw := fun w h => (fun q : GoodIn lw_tbl (u_ws RX12 TX12 6) => List.mem_filter.mpr ⟨(q w h).1, by rcases (q w h).2 with z | ⟨ty, rfl⟩ <;> first | rfl | (revert z; cases w <;> first | exact id | (intro; rfl))⟩) (goodIn_r _ [1720, 1722, 1724, 1726, 1728, 1769] (by decide +kernel) (by decide +kernel))
set_option maxRecDepth 20000 in
theorem cin_13 : ∀ w ∈ u_ws RX13 TX13 12, w ∈ gw := fun w h => (fun q : GoodIn lw_tbl (u_ws RX13 TX13 12) => List.mem_filter.mpr ⟨(q w h).1, by rcases (q w h).2 with z | ⟨ty, rfl⟩ <;> first | rfl | (revert z; cases w <;> first | exact id | (intro; rfl))⟩) (goodIn_r _ [1800, 1802, 1804, 1806, 1808, 1810, 1812, 1814, 1816, 1818, 1820, 1822] (by decide +kernel) (by decide +kernel))
set_option maxRecDepth 20000 in
theorem cin_14 : ∀ w ∈ u_ws RX14 TX14 91, w ∈ gw := fun w h => (fun q : GoodIn lw_tbl (u_ws RX14 TX14 91) => List.mem_filter.mpr ⟨(q w h).1, by rcases (q w h).2 with z | ⟨ty, rfl⟩ <;> first | rfl | (revert z; cases w <;> first | exact id | (intro; rfl))⟩) (goodIn_r _ [1920, 1922, 1924, 1926, 1928, 1930, 1932, 1934, 1936, 1938, 1940, 1942, 1944, 1946, 1948, 1950, 1952, 1954, 1956, 1958, 1960, 1962, 1964, 1966, 1968, 1970, 1972, 1974, 1976, 1978, 1980, 1982, 1984, 1986, 1988, 1990, 1992, 1994, 1996, 1998, 2000, 2002, 2004, 2006, 2008, 2010, 2012, 2014, 2016, 2018, 2020, 2022, 2024, 2026, 2028, 2030, 2032, 2034, 2036, 2038, 2040, 2042, 2044, 2046, 2048, 2050, 2052, 2054, 2056, 2058, 2060, 2062, 2064, 2066, 2068, 2070, 2072, 2074, 2076, 2078, 2080, 2082, 2084, 2086, 2088, 2090, 2092, 2094, 2096, 2098, 2100] (by decide +kernel) (by decide +kernel))
theorem cl_in : ∀ (ci : Nat) (q : vw_C), cl_all[ci]? = some q → ∀ w ∈ u_ws q.1 q.2.1 q.2.2, w ∈ gw := by
  intro ci q h
  match ci, h with
  | 0, h => cases h; exact cin_0
  | 1, h => cases h; exact cin_1
  | 2, h => cases h; exact cin_2
  | 3, h => cases h; exact cin_3
  | 4, h => cases h; exact cin_4
  | 5, h => cases h; exact cin_5
  | 6, h => cases h; exact cin_6
  | 7, h => cases h; exact cin_7
  | 8, h => cases h; exact cin_8
  | 9, h => cases h; exact cin_9
  | 10, h => cases h; exact cin_10
  | 11, h => cases h; exact cin_11
  | 12, h => cases h; exact cin_12
  | 13, h => cases h; exact cin_13
  | 14, h => cases h; exact cin_14
  | k + 15, h => simp [cl_all] at h
theorem cl_tyok : ∀ (ci : Nat) (q : vw_C), cl_all[ci]? = some q → ∀ k, k < q.2.2 → parseFieldDescriptor (q.2.1 k).2.2.1 = some (cl_ty ci k) := by
  intro ci q h
  match ci, h with
  | 0, h => cases h; exact tyX0_ok
  | 1, h => cases h; exact tyX1_ok
  | 2, h => cases h; exact tyX2_ok
  | 3, h => cases h; exact tyX3_ok
  | 4, h => cases h; exact tyX4_ok
  | 5, h => cases h; exact tyX5_ok
  | 6, h => cases h; exact tyX6_ok
  | 7, h => cases h; exact tyX7_ok
  | 8, h => cases h; exact tyX8_ok
  | 9, h => cases h; exact tyX9_ok
  | 10, h => cases h; exact tyX10_ok
  | 11, h => cases h; exact tyX11_ok
  | 12, h => cases h; exact tyX12_ok
  | 13, h => cases h; exact tyX13_ok
  | 14, h => cases h; exact tyX14_ok
  | k + 15, h => simp [cl_all] at h
theorem cl_nm : ∀ (ci : Nat) (q : vw_C), cl_all[ci]? = some q → ∀ a, a < q.2.2 → ∀ b, b < q.2.2 → a ≠ b → (q.2.1 a).2.1 ≠ (q.2.1 b).2.1 := by
  intro ci q h
  match ci, h with
  | 0, h => cases h; exact nmX0
  | 1, h => cases h; exact nmX1
  | 2, h => cases h; exact nmX2
  | 3, h => cases h; exact nmX3
  | 4, h => cases h; exact nmX4
  | 5, h => cases h; exact nmX5
  | 6, h => cases h; exact nmX6
  | 7, h => cases h; exact nmX7
  | 8, h => cases h; exact nmX8
  | 9, h => cases h; exact nmX9
  | 10, h => cases h; exact nmX10
  | 11, h => cases h; exact nmX11
  | 12, h => cases h; exact nmX12
  | 13, h => cases h; exact nmX13
  | 14, h => cases h; exact nmX14
  | k + 15, h => simp [cl_all] at h
theorem cl_len : ∀ (ci : Nat) (q : vw_C), cl_all[ci]? = some q → q.2.2 = cl_n ci := by
  intro ci q h
  match ci, h with
  | 0, h => cases h; rfl
  | 1, h => cases h; rfl
  | 2, h => cases h; rfl
  | 3, h => cases h; rfl
  | 4, h => cases h; rfl
  | 5, h => cases h; rfl
  | 6, h => cases h; rfl
  | 7, h => cases h; rfl
  | 8, h => cases h; rfl
  | 9, h => cases h; rfl
  | 10, h => cases h; rfl
  | 11, h => cases h; rfl
  | 12, h => cases h; rfl
  | 13, h => cases h; rfl
  | 14, h => cases h; rfl
  | k + 15, h => simp [cl_all] at h
def shL : List (Nat ⊕ (Nat × Nat)) := [.inl 11, .inr (0, 4000), .inr (0, 4000), .inl 10, .inr (0, 8400), .inr (1, 8400), .inr (1, 8400), .inr (1, 8400), .inr (1, 8400), .inr (0, 8400), .inr (1, 67200), .inr (1, 60), .inr (1, 60), .inr (1, 60), .inr (1, 60), .inl 9, .inr (0, 0), .inl 5, .inr (2, 8400), .inr (2, 60), .inr (0, 0), .inl 8, .inr (1, 2000), .inr (1, 2000), .inr (1, 2000), .inr (1, 2003), .inr (1, 1024), .inr (1, 60), .inr (1, 480), .inr (1, 60), .inl 8, .inr (1, 2000), .inr (1, 2000), .inr (1, 2000), .inr (1, 2003), .inr (1, 1024), .inr (1, 60), .inr (1, 480), .inr (1, 60), .inl 3, .inr (1, 8400), .inr (1, 8400), .inr (1, 2000), .inr (1, 2000), .inl 1, .inr (0, 61440), .inr (0, 2000), .inr (0, 6010), .inr (1, 6010), .inr (1, 6010), .inl 7, .inr (1, 8), .inl 0, .inr (0, 61440), .inr (0, 65536), .inl 4, .inl 2, .inr (1, 1920), .inr (1, 1920), .inr (1, 8), .inl 4, .inr (0, 0), .inr (0, 0), .inl 6, .inr (1, 1000), .inr (1, 1000), .inl 14, .inl 12, .inr (0, 4000), .inr (0, 4000), .inr (1, 12200), .inr (1, 12200), .inr (1, 12200), .inr (1, 12200), .inr (3, 12200), .inr (3, 12200), .inr (3, 12200), .inr (2, 12200), .inr (1, 97600), .inr (1, 60), .inr (1, 60), .inr (1, 4000), .inr (1, 4000), .inr (1, 4000), .inr (1, 4000), .inr (1, 4000), .inr (1, 4000), .inl 13, .inr (1, 2001), .inr (1, 2001), .inr (1, 2001), .inr (1, 2004), .inr (1, 1032), .inr (0, 61440), .inr (1, 720), .inl 13, .inr (1, 2001), .inr (1, 2001), .inr (1, 2001), .inr (1, 2004), .inr (1, 1032), .inr (0, 61440), .inr (1, 720), .inr (1, 26000), .inr (1, 26000), .inr (1, 26000), .inr (1, 26000), .inr (3, 26000), .inr (0, 61840), .inr (1, 2000), .inr (1, 2000), .inr (0, 61440), .inr (0, 65536), .inr (1, 8), .inr (3, 61440), .inr (3, 65536), .inr (1, 8), .inr (1, 1002), .inr (1, 1002), .inr (1, 1002), .inr (1, 1002), .inr (1, 1002)]
def sh (i : Nat) : Nat ⊕ (Nat × Nat) := shL.getD i (.inr (1, 0))
def szC (i : Nat) : Nat := match sh i with
  | .inl ci => cl_n ci
  | .inr q => q.2
/-- the slots of the first n cells -/
def sl : Nat → Nat
  | 0 => 0
  | n + 1 => sl n + szC n
theorem sl_mono {a b : Nat} (h : a ≤ b) : sl a ≤ sl b := by
  induction h with
  | refl => exact Nat.le_refl _
  | step _ ih => exact Nat.le_trans ih (Nat.le_add_right _ _)
def fok (own : String) (idx ci k : Nat) : Prop := ∃ (C : String) (T : u_T) (N : Nat), cl_all[ci]? = some (C, T, N) ∧ k < N ∧ (Cond.fieldLink own idx (T k).1 (T k).2.1 (T k).2.2.1 ∈ gw ∨ ∃ h : String, Cond.fieldLinkNest own idx (T k).1 (T k).2.1 (T k).2.2.1 h ∈ nw)
def clf (ci k : Nat) : Bool := match cl_all[ci]? with
  | some q => (q.2.1 k).2.2.2
  | none => false
/-- what a call asks of the tables about the method -/
def mok (y : MethodName) (code : ByteArray) (maxL : Nat) (ret : Option FieldType) (np : Nat) : Prop :=
  Cond.initialized y.cls ∈ gw ∧ Cond.code y code maxL ret ∈ gw ∧ (y.cls ≠ "java/lang/invoke/MethodHandle" ∧ y.cls ≠ "java/lang/invoke/VarHandle" ∧ (parseMethodDescriptor y.desc).map (fun d => d.parameters.length) = some np) ∧ maxL ≤ 11
/-- the link: by the class's own pool, or a nest mate's -/
def lok (own : String) (idx : Nat) (y : MethodName) : Prop := Cond.methodLink own idx y ∈ gw ∨ ∃ h : String, Cond.methodLinkNest own idx y h ∈ nw
def iok (y : MethodName) : Prop := Cond.instanceMethod y ∈ gw ∧ Cond.selects y.cls y y ∈ gw
