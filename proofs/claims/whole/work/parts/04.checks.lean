/-! the tables hold: each link by its place in the law's own words -/
def m_TB : List Cond := lw_tbl.filter goodWord
theorem m_TB_good : GoodIn m_TB m_TB := fun w h => ⟨h, good_of_word (List.mem_filter.mp h).2⟩
def m_at (i : Nat) (w : Cond) : Bool := decide (lw_tbl[i]? = some w) && goodWord w
theorem m_at_in {i : Nat} {w : Cond} (h : m_at i w = true) : w ∈ m_TB := by
  unfold m_at at h
  rw [Bool.and_eq_true] at h
  exact List.mem_filter.mpr ⟨List.mem_of_getElem? (of_decide_eq_true h.1), h.2⟩
def m_isN (w : Cond) : Bool := match w with
  | .methodLinkNest _ _ _ _ => true
  | .declares _ => true
  | .castable _ _ => true
  | .arrayOver (.object _) => true
  | _ => false
def m_NW : List Cond := lw_tbl.filter m_isN
def m_atN (i : Nat) (w : Cond) : Bool := decide (lw_tbl[i]? = some w) && m_isN w
theorem m_atN_in {i : Nat} {w : Cond} (h : m_atN i w = true) : w ∈ m_NW := by
  unfold m_atN at h
  rw [Bool.and_eq_true] at h
  exact List.mem_filter.mpr ⟨List.mem_of_getElem? (of_decide_eq_true h.1), h.2⟩
theorem m_NW_warm {w : Cond} (hw : w ∈ m_NW) {s U : State} (hW : s.WarmedH U.vm) (h : va_Nw w s) : va_Nw w U := by
  have h2 := (List.mem_filter.mp hw).2
  unfold m_isN at h2
  split at h2
  · exact va_Nw.warmM hW h
  · exact va_Nw.warmD hW h
  · exact va_Nw.warmC hW h
  · exact va_AO.moved hW.alike h
  · exact absurd h2 (by decide)
theorem m_NW_of {w : Cond} (hw : w ∈ m_NW) {A : Array Value} {U : State} (h : w.before A U = true) : va_Nw w U := by
  have h2 := (List.mem_filter.mp hw).2
  unfold m_isN at h2
  split at h2
  · exact va_Nw.of rfl h
  · exact va_Nw.of rfl h
  · exact va_Nw.of rfl h
  · exact va_AO.of h
  · exact absurd h2 (by decide)
theorem m_NW_tbl {w : Cond} (hw : w ∈ m_NW) : w ∈ lw_tbl := (List.mem_filter.mp hw).1
theorem m_TB_tbl {w : Cond} (hw : w ∈ m_TB) : w ∈ lw_tbl := (List.mem_filter.mp hw).1
def m_Rn (c : Nat) : String := match c with
  | 0 => RX0
  | 1 => RX1
  | 2 => RX2
  | 3 => RX3
  | 4 => RX4
  | 5 => RX5
  | 6 => RX7
  | 7 => RX8
  | 8 => RX9
  | _ => RX10
def m_oN (o : Nat) : String := m_oR.getD o ""
def m_cw (m : Nat) : Cond := .code (m_nam m) (m_code m) (m_maxL m) (m_ret m)
set_option maxRecDepth 20000 in
theorem m_cw_0 : m_cw 0 ∈ m_TB := List.mem_filter.mpr ⟨List.mem_of_getElem? (i := 158) rfl, rfl⟩
set_option maxRecDepth 20000 in
theorem m_cw_1 : m_cw 1 ∈ m_TB := List.mem_filter.mpr ⟨List.mem_of_getElem? (i := 583) rfl, rfl⟩
set_option maxRecDepth 20000 in
theorem m_cw_2 : m_cw 2 ∈ m_TB := List.mem_filter.mpr ⟨List.mem_of_getElem? (i := 594) rfl, rfl⟩
set_option maxRecDepth 20000 in
theorem m_cw_3 : m_cw 3 ∈ m_TB := List.mem_filter.mpr ⟨List.mem_of_getElem? (i := 602) rfl, rfl⟩
set_option maxRecDepth 20000 in
theorem m_cw_4 : m_cw 4 ∈ m_TB := List.mem_filter.mpr ⟨List.mem_of_getElem? (i := 606) rfl, rfl⟩
set_option maxRecDepth 20000 in
theorem m_cw_5 : m_cw 5 ∈ m_TB := List.mem_filter.mpr ⟨List.mem_of_getElem? (i := 623) rfl, rfl⟩
set_option maxRecDepth 20000 in
theorem m_cw_6 : m_cw 6 ∈ m_TB := List.mem_filter.mpr ⟨List.mem_of_getElem? (i := 618) rfl, rfl⟩
set_option maxRecDepth 20000 in
theorem m_cw_7 : m_cw 7 ∈ m_TB := List.mem_filter.mpr ⟨List.mem_of_getElem? (i := 650) rfl, rfl⟩
set_option maxRecDepth 20000 in
theorem m_cw_8 : m_cw 8 ∈ m_TB := List.mem_filter.mpr ⟨List.mem_of_getElem? (i := 676) rfl, rfl⟩
set_option maxRecDepth 20000 in
theorem m_cw_9 : m_cw 9 ∈ m_TB := List.mem_filter.mpr ⟨List.mem_of_getElem? (i := 681) rfl, rfl⟩
set_option maxRecDepth 20000 in
theorem m_cw_10 : m_cw 10 ∈ m_TB := List.mem_filter.mpr ⟨List.mem_of_getElem? (i := 685) rfl, rfl⟩
set_option maxRecDepth 20000 in
theorem m_cw_11 : m_cw 11 ∈ m_TB := List.mem_filter.mpr ⟨List.mem_of_getElem? (i := 694) rfl, rfl⟩
set_option maxRecDepth 20000 in
theorem m_cw_12 : m_cw 12 ∈ m_TB := List.mem_filter.mpr ⟨List.mem_of_getElem? (i := 192) rfl, rfl⟩
set_option maxRecDepth 20000 in
theorem m_cw_13 : m_cw 13 ∈ m_TB := List.mem_filter.mpr ⟨List.mem_of_getElem? (i := 715) rfl, rfl⟩
set_option maxRecDepth 20000 in
theorem m_cw_14 : m_cw 14 ∈ m_TB := List.mem_filter.mpr ⟨List.mem_of_getElem? (i := 719) rfl, rfl⟩
set_option maxRecDepth 20000 in
theorem m_cw_15 : m_cw 15 ∈ m_TB := List.mem_filter.mpr ⟨List.mem_of_getElem? (i := 367) rfl, rfl⟩
set_option maxRecDepth 20000 in
theorem m_cw_16 : m_cw 16 ∈ m_TB := List.mem_filter.mpr ⟨List.mem_of_getElem? (i := 388) rfl, rfl⟩
set_option maxRecDepth 20000 in
theorem m_cw_17 : m_cw 17 ∈ m_TB := List.mem_filter.mpr ⟨List.mem_of_getElem? (i := 506) rfl, rfl⟩
set_option maxRecDepth 20000 in
theorem m_cw_18 : m_cw 18 ∈ m_TB := List.mem_filter.mpr ⟨List.mem_of_getElem? (i := 563) rfl, rfl⟩
set_option maxRecDepth 20000 in
theorem m_cw_19 : m_cw 19 ∈ m_TB := List.mem_filter.mpr ⟨List.mem_of_getElem? (i := 567) rfl, rfl⟩
set_option maxRecDepth 20000 in
theorem m_cw_20 : m_cw 20 ∈ m_TB := List.mem_filter.mpr ⟨List.mem_of_getElem? (i := 611) rfl, rfl⟩
set_option maxRecDepth 20000 in
theorem m_cw_21 : m_cw 21 ∈ m_TB := List.mem_filter.mpr ⟨List.mem_of_getElem? (i := 598) rfl, rfl⟩
set_option maxRecDepth 20000 in
theorem m_cw_22 : m_cw 22 ∈ m_TB := List.mem_filter.mpr ⟨List.mem_of_getElem? (i := 524) rfl, rfl⟩
set_option maxRecDepth 20000 in
theorem m_cw_23 : m_cw 23 ∈ m_TB := List.mem_filter.mpr ⟨List.mem_of_getElem? (i := 531) rfl, rfl⟩
set_option maxRecDepth 20000 in
theorem m_cw_24 : m_cw 24 ∈ m_TB := List.mem_filter.mpr ⟨List.mem_of_getElem? (i := 535) rfl, rfl⟩
set_option maxRecDepth 20000 in
theorem m_cw_25 : m_cw 25 ∈ m_TB := List.mem_filter.mpr ⟨List.mem_of_getElem? (i := 542) rfl, rfl⟩
set_option maxRecDepth 20000 in
theorem m_cw_26 : m_cw 26 ∈ m_TB := List.mem_filter.mpr ⟨List.mem_of_getElem? (i := 590) rfl, rfl⟩
set_option maxRecDepth 20000 in
theorem m_cw_27 : m_cw 27 ∈ m_TB := List.mem_filter.mpr ⟨List.mem_of_getElem? (i := 690) rfl, rfl⟩
set_option maxRecDepth 20000 in
theorem m_cw_28 : m_cw 28 ∈ m_TB := List.mem_filter.mpr ⟨List.mem_of_getElem? (i := 702) rfl, rfl⟩
set_option maxRecDepth 20000 in
theorem m_cw_29 : m_cw 29 ∈ m_TB := List.mem_filter.mpr ⟨List.mem_of_getElem? (i := 698) rfl, rfl⟩
set_option maxRecDepth 20000 in
theorem m_cw_30 : m_cw 30 ∈ m_TB := List.mem_filter.mpr ⟨List.mem_of_getElem? (i := 97) rfl, rfl⟩
set_option maxRecDepth 20000 in
theorem m_cw_31 : m_cw 31 ∈ m_TB := List.mem_filter.mpr ⟨List.mem_of_getElem? (i := 295) rfl, rfl⟩
set_option maxRecDepth 20000 in
theorem m_cw_32 : m_cw 32 ∈ m_TB := List.mem_filter.mpr ⟨List.mem_of_getElem? (i := 360) rfl, rfl⟩
set_option maxRecDepth 20000 in
theorem m_cw_33 : m_cw 33 ∈ m_TB := List.mem_filter.mpr ⟨List.mem_of_getElem? (i := 304) rfl, rfl⟩
set_option maxRecDepth 20000 in
theorem m_cw_34 : m_cw 34 ∈ m_TB := List.mem_filter.mpr ⟨List.mem_of_getElem? (i := 312) rfl, rfl⟩
set_option maxRecDepth 20000 in
theorem m_cw_35 : m_cw 35 ∈ m_TB := List.mem_filter.mpr ⟨List.mem_of_getElem? (i := 324) rfl, rfl⟩
set_option maxRecDepth 20000 in
theorem m_cw_36 : m_cw 36 ∈ m_TB := List.mem_filter.mpr ⟨List.mem_of_getElem? (i := 320) rfl, rfl⟩
set_option maxRecDepth 20000 in
theorem m_cw_37 : m_cw 37 ∈ m_TB := List.mem_filter.mpr ⟨List.mem_of_getElem? (i := 328) rfl, rfl⟩
set_option maxRecDepth 20000 in
theorem m_cw_38 : m_cw 38 ∈ m_TB := List.mem_filter.mpr ⟨List.mem_of_getElem? (i := 332) rfl, rfl⟩
set_option maxRecDepth 20000 in
theorem m_cw_39 : m_cw 39 ∈ m_TB := List.mem_filter.mpr ⟨List.mem_of_getElem? (i := 215) rfl, rfl⟩
set_option maxRecDepth 20000 in
theorem m_cw_40 : m_cw 40 ∈ m_TB := List.mem_filter.mpr ⟨List.mem_of_getElem? (i := 729) rfl, rfl⟩
set_option maxRecDepth 20000 in
theorem m_cw_41 : m_cw 41 ∈ m_TB := List.mem_filter.mpr ⟨List.mem_of_getElem? (i := 733) rfl, rfl⟩
set_option maxRecDepth 20000 in
theorem m_cw_42 : m_cw 42 ∈ m_TB := List.mem_filter.mpr ⟨List.mem_of_getElem? (i := 737) rfl, rfl⟩
set_option maxRecDepth 20000 in
theorem m_cw_43 : m_cw 43 ∈ m_TB := List.mem_filter.mpr ⟨List.mem_of_getElem? (i := 743) rfl, rfl⟩
set_option maxRecDepth 20000 in
theorem m_cw_44 : m_cw 44 ∈ m_TB := List.mem_filter.mpr ⟨List.mem_of_getElem? (i := 100) rfl, rfl⟩
set_option maxRecDepth 20000 in
theorem m_cw_45 : m_cw 45 ∈ m_TB := List.mem_filter.mpr ⟨List.mem_of_getElem? (i := 308) rfl, rfl⟩
set_option maxRecDepth 20000 in
theorem m_cw_46 : m_cw 46 ∈ m_TB := List.mem_filter.mpr ⟨List.mem_of_getElem? (i := 316) rfl, rfl⟩
set_option maxRecDepth 20000 in
theorem m_cw_47 : m_cw 47 ∈ m_TB := List.mem_filter.mpr ⟨List.mem_of_getElem? (i := 472) rfl, rfl⟩
set_option maxRecDepth 20000 in
theorem m_cw_48 : m_cw 48 ∈ m_TB := List.mem_filter.mpr ⟨List.mem_of_getElem? (i := 494) rfl, rfl⟩
set_option maxRecDepth 20000 in
theorem m_cw_49 : m_cw 49 ∈ m_TB := List.mem_filter.mpr ⟨List.mem_of_getElem? (i := 520) rfl, rfl⟩
set_option maxRecDepth 20000 in
theorem m_cw_50 : m_cw 50 ∈ m_TB := List.mem_filter.mpr ⟨List.mem_of_getElem? (i := 760) rfl, rfl⟩
set_option maxRecDepth 20000 in
theorem m_cw_51 : m_cw 51 ∈ m_TB := List.mem_filter.mpr ⟨List.mem_of_getElem? (i := 137) rfl, rfl⟩
set_option maxRecDepth 20000 in
theorem m_cw_52 : m_cw 52 ∈ m_TB := List.mem_filter.mpr ⟨List.mem_of_getElem? (i := 298) rfl, rfl⟩
set_option maxRecDepth 20000 in
theorem m_cw_53 : m_cw 53 ∈ m_TB := List.mem_filter.mpr ⟨List.mem_of_getElem? (i := 363) rfl, rfl⟩
set_option maxRecDepth 20000 in
theorem m_cw_54 : m_cw 54 ∈ m_TB := List.mem_filter.mpr ⟨List.mem_of_getElem? (i := 335) rfl, rfl⟩
set_option maxRecDepth 20000 in
theorem m_cw_55 : m_cw 55 ∈ m_TB := List.mem_filter.mpr ⟨List.mem_of_getElem? (i := 346) rfl, rfl⟩
set_option maxRecDepth 20000 in
theorem m_cw_56 : m_cw 56 ∈ m_TB := List.mem_filter.mpr ⟨List.mem_of_getElem? (i := 341) rfl, rfl⟩
set_option maxRecDepth 20000 in
theorem m_cw_57 : m_cw 57 ∈ m_TB := List.mem_filter.mpr ⟨List.mem_of_getElem? (i := 83) rfl, rfl⟩
set_option maxRecDepth 20000 in
theorem m_cw_58 : m_cw 58 ∈ m_TB := List.mem_filter.mpr ⟨List.mem_of_getElem? (i := 273) rfl, rfl⟩
set_option maxRecDepth 20000 in
theorem m_cw_59 : m_cw 59 ∈ m_TB := List.mem_filter.mpr ⟨List.mem_of_getElem? (i := 276) rfl, rfl⟩
set_option maxRecDepth 20000 in
theorem m_cw_60 : m_cw 60 ∈ m_TB := List.mem_filter.mpr ⟨List.mem_of_getElem? (i := 281) rfl, rfl⟩
set_option maxRecDepth 20000 in
theorem m_cw_61 : m_cw 61 ∈ m_TB := List.mem_filter.mpr ⟨List.mem_of_getElem? (i := 285) rfl, rfl⟩
set_option maxRecDepth 20000 in
theorem m_cw_62 : m_cw 62 ∈ m_TB := List.mem_filter.mpr ⟨List.mem_of_getElem? (i := 289) rfl, rfl⟩
set_option maxRecDepth 20000 in
theorem m_cw_63 : m_cw 63 ∈ m_TB := List.mem_filter.mpr ⟨List.mem_of_getElem? (i := 354) rfl, rfl⟩
set_option maxRecDepth 20000 in
theorem m_cw_64 : m_cw 64 ∈ m_TB := List.mem_filter.mpr ⟨List.mem_of_getElem? (i := 350) rfl, rfl⟩
set_option maxRecDepth 20000 in
theorem m_cw_65 : m_cw 65 ∈ m_TB := List.mem_filter.mpr ⟨List.mem_of_getElem? (i := 465) rfl, rfl⟩
set_option maxRecDepth 20000 in
theorem m_cw_66 : m_cw 66 ∈ m_TB := List.mem_filter.mpr ⟨List.mem_of_getElem? (i := 468) rfl, rfl⟩
set_option maxRecDepth 20000 in
theorem m_cw_67 : m_cw 67 ∈ m_TB := List.mem_filter.mpr ⟨List.mem_of_getElem? (i := 502) rfl, rfl⟩
set_option maxRecDepth 20000 in
theorem m_cw_68 : m_cw 68 ∈ m_TB := List.mem_filter.mpr ⟨List.mem_of_getElem? (i := 490) rfl, rfl⟩
set_option maxRecDepth 20000 in
theorem m_cw_69 : m_cw 69 ∈ m_TB := List.mem_filter.mpr ⟨List.mem_of_getElem? (i := 672) rfl, rfl⟩
set_option maxRecDepth 20000 in
theorem m_cw_70 : m_cw 70 ∈ m_TB := List.mem_filter.mpr ⟨List.mem_of_getElem? (i := 486) rfl, rfl⟩
set_option maxRecDepth 20000 in
theorem m_cw_71 : m_cw 71 ∈ m_TB := List.mem_filter.mpr ⟨List.mem_of_getElem? (i := 498) rfl, rfl⟩
set_option maxRecDepth 20000 in
theorem m_cw_72 : m_cw 72 ∈ m_TB := List.mem_filter.mpr ⟨List.mem_of_getElem? (i := 516) rfl, rfl⟩
set_option maxRecDepth 20000 in
theorem m_cw_73 : m_cw 73 ∈ m_TB := List.mem_filter.mpr ⟨List.mem_of_getElem? (i := 547) rfl, rfl⟩
set_option maxRecDepth 20000 in
theorem m_cw_74 : m_cw 74 ∈ m_TB := List.mem_filter.mpr ⟨List.mem_of_getElem? (i := 555) rfl, rfl⟩
set_option maxRecDepth 20000 in
theorem m_cw_75 : m_cw 75 ∈ m_TB := List.mem_filter.mpr ⟨List.mem_of_getElem? (i := 559) rfl, rfl⟩
set_option maxRecDepth 20000 in
theorem m_cw_76 : m_cw 76 ∈ m_TB := List.mem_filter.mpr ⟨List.mem_of_getElem? (i := 571) rfl, rfl⟩
set_option maxRecDepth 20000 in
theorem m_cw_77 : m_cw 77 ∈ m_TB := List.mem_filter.mpr ⟨List.mem_of_getElem? (i := 575) rfl, rfl⟩
set_option maxRecDepth 20000 in
theorem m_cw_78 : m_cw 78 ∈ m_TB := List.mem_filter.mpr ⟨List.mem_of_getElem? (i := 579) rfl, rfl⟩
set_option maxRecDepth 20000 in
theorem m_cw_79 : m_cw 79 ∈ m_TB := List.mem_filter.mpr ⟨List.mem_of_getElem? (i := 630) rfl, rfl⟩
set_option maxRecDepth 20000 in
theorem m_cw_80 : m_cw 80 ∈ m_TB := List.mem_filter.mpr ⟨List.mem_of_getElem? (i := 637) rfl, rfl⟩
set_option maxRecDepth 20000 in
theorem m_cw_81 : m_cw 81 ∈ m_TB := List.mem_filter.mpr ⟨List.mem_of_getElem? (i := 641) rfl, rfl⟩
set_option maxRecDepth 20000 in
theorem m_cw_82 : m_cw 82 ∈ m_TB := List.mem_filter.mpr ⟨List.mem_of_getElem? (i := 646) rfl, rfl⟩
set_option maxRecDepth 20000 in
theorem m_cw_83 : m_cw 83 ∈ m_TB := List.mem_filter.mpr ⟨List.mem_of_getElem? (i := 668) rfl, rfl⟩
set_option maxRecDepth 20000 in
theorem m_cw_84 : m_cw 84 ∈ m_TB := List.mem_filter.mpr ⟨List.mem_of_getElem? (i := 706) rfl, rfl⟩
set_option maxRecDepth 20000 in
theorem m_cw_85 : m_cw 85 ∈ m_TB := List.mem_filter.mpr ⟨List.mem_of_getElem? (i := 710) rfl, rfl⟩
set_option maxRecDepth 20000 in
theorem m_cw_86 : m_cw 86 ∈ m_TB := List.mem_filter.mpr ⟨List.mem_of_getElem? (i := 725) rfl, rfl⟩
set_option maxRecDepth 20000 in
theorem m_cw_87 : m_cw 87 ∈ m_TB := List.mem_filter.mpr ⟨List.mem_of_getElem? (i := 748) rfl, rfl⟩
set_option maxRecDepth 20000 in
theorem m_cw_88 : m_cw 88 ∈ m_TB := List.mem_filter.mpr ⟨List.mem_of_getElem? (i := 752) rfl, rfl⟩
set_option maxRecDepth 20000 in
theorem m_cw_89 : m_cw 89 ∈ m_TB := List.mem_filter.mpr ⟨List.mem_of_getElem? (i := 756) rfl, rfl⟩
set_option maxRecDepth 20000 in
theorem m_cw_90 : m_cw 90 ∈ m_TB := List.mem_filter.mpr ⟨List.mem_of_getElem? (i := 766) rfl, rfl⟩
set_option maxRecDepth 20000 in
theorem m_cw_91 : m_cw 91 ∈ m_TB := List.mem_filter.mpr ⟨List.mem_of_getElem? (i := 770) rfl, rfl⟩
set_option maxRecDepth 20000 in
theorem m_cw_92 : m_cw 92 ∈ m_TB := List.mem_filter.mpr ⟨List.mem_of_getElem? (i := 774) rfl, rfl⟩
set_option maxRecDepth 20000 in
theorem m_cw_93 : m_cw 93 ∈ m_TB := List.mem_filter.mpr ⟨List.mem_of_getElem? (i := 778) rfl, rfl⟩
set_option maxRecDepth 20000 in
theorem m_cw_94 : m_cw 94 ∈ m_TB := List.mem_filter.mpr ⟨List.mem_of_getElem? (i := 782) rfl, rfl⟩
set_option maxRecDepth 20000 in
theorem m_cw_95 : m_cw 95 ∈ m_TB := List.mem_filter.mpr ⟨List.mem_of_getElem? (i := 787) rfl, rfl⟩
set_option maxRecDepth 20000 in
theorem m_cw_96 : m_cw 96 ∈ m_TB := List.mem_filter.mpr ⟨List.mem_of_getElem? (i := 527) rfl, rfl⟩
set_option maxRecDepth 20000 in
theorem m_cw_97 : m_cw 97 ∈ m_TB := List.mem_filter.mpr ⟨List.mem_of_getElem? (i := 538) rfl, rfl⟩
set_option maxRecDepth 20000 in
theorem m_cw_98 : m_cw 98 ∈ m_TB := List.mem_filter.mpr ⟨List.mem_of_getElem? (i := 550) rfl, rfl⟩
set_option maxRecDepth 20000 in
theorem m_cw_99 : m_cw 99 ∈ m_TB := List.mem_filter.mpr ⟨List.mem_of_getElem? (i := 626) rfl, rfl⟩
set_option maxRecDepth 20000 in
theorem m_cw_100 : m_cw 100 ∈ m_TB := List.mem_filter.mpr ⟨List.mem_of_getElem? (i := 633) rfl, rfl⟩
set_option maxRecDepth 20000 in
theorem m_cw_101 : m_cw 101 ∈ m_TB := List.mem_filter.mpr ⟨List.mem_of_getElem? (i := 796) rfl, rfl⟩
set_option maxRecDepth 20000 in
theorem m_cw_102 : m_cw 102 ∈ m_TB := List.mem_filter.mpr ⟨List.mem_of_getElem? (i := 929) rfl, rfl⟩
set_option maxRecDepth 20000 in
theorem m_cw_103 : m_cw 103 ∈ m_TB := List.mem_filter.mpr ⟨List.mem_of_getElem? (i := 1082) rfl, rfl⟩
set_option maxRecDepth 20000 in
theorem m_cw_104 : m_cw 104 ∈ m_TB := List.mem_filter.mpr ⟨List.mem_of_getElem? (i := 1013) rfl, rfl⟩
set_option maxRecDepth 20000 in
theorem m_cw_105 : m_cw 105 ∈ m_TB := List.mem_filter.mpr ⟨List.mem_of_getElem? (i := 982) rfl, rfl⟩
set_option maxRecDepth 20000 in
theorem m_cw_106 : m_cw 106 ∈ m_TB := List.mem_filter.mpr ⟨List.mem_of_getElem? (i := 978) rfl, rfl⟩
set_option maxRecDepth 20000 in
theorem m_cw_107 : m_cw 107 ∈ m_TB := List.mem_filter.mpr ⟨List.mem_of_getElem? (i := 917) rfl, rfl⟩
set_option maxRecDepth 20000 in
theorem m_cw_108 : m_cw 108 ∈ m_TB := List.mem_filter.mpr ⟨List.mem_of_getElem? (i := 922) rfl, rfl⟩
set_option maxRecDepth 20000 in
theorem m_cw_109 : m_cw 109 ∈ m_TB := List.mem_filter.mpr ⟨List.mem_of_getElem? (i := 941) rfl, rfl⟩
set_option maxRecDepth 20000 in
theorem m_cw_110 : m_cw 110 ∈ m_TB := List.mem_filter.mpr ⟨List.mem_of_getElem? (i := 937) rfl, rfl⟩
set_option maxRecDepth 20000 in
theorem m_cw_111 : m_cw 111 ∈ m_TB := List.mem_filter.mpr ⟨List.mem_of_getElem? (i := 953) rfl, rfl⟩
set_option maxRecDepth 20000 in
theorem m_cw_112 : m_cw 112 ∈ m_TB := List.mem_filter.mpr ⟨List.mem_of_getElem? (i := 949) rfl, rfl⟩
set_option maxRecDepth 20000 in
theorem m_cw_113 : m_cw 113 ∈ m_TB := List.mem_filter.mpr ⟨List.mem_of_getElem? (i := 933) rfl, rfl⟩
set_option maxRecDepth 20000 in
theorem m_cw_114 : m_cw 114 ∈ m_TB := List.mem_filter.mpr ⟨List.mem_of_getElem? (i := 926) rfl, rfl⟩
set_option maxRecDepth 20000 in
theorem m_cw_115 : m_cw 115 ∈ m_TB := List.mem_filter.mpr ⟨List.mem_of_getElem? (i := 957) rfl, rfl⟩
set_option maxRecDepth 20000 in
theorem m_cw_116 : m_cw 116 ∈ m_TB := List.mem_filter.mpr ⟨List.mem_of_getElem? (i := 961) rfl, rfl⟩
set_option maxRecDepth 20000 in
theorem m_cw_117 : m_cw 117 ∈ m_TB := List.mem_filter.mpr ⟨List.mem_of_getElem? (i := 970) rfl, rfl⟩
set_option maxRecDepth 20000 in
theorem m_cw_118 : m_cw 118 ∈ m_TB := List.mem_filter.mpr ⟨List.mem_of_getElem? (i := 966) rfl, rfl⟩
set_option maxRecDepth 20000 in
theorem m_cw_119 : m_cw 119 ∈ m_TB := List.mem_filter.mpr ⟨List.mem_of_getElem? (i := 990) rfl, rfl⟩
set_option maxRecDepth 20000 in
theorem m_cw_120 : m_cw 120 ∈ m_TB := List.mem_filter.mpr ⟨List.mem_of_getElem? (i := 994) rfl, rfl⟩
set_option maxRecDepth 20000 in
theorem m_cw_121 : m_cw 121 ∈ m_TB := List.mem_filter.mpr ⟨List.mem_of_getElem? (i := 986) rfl, rfl⟩
set_option maxRecDepth 20000 in
theorem m_cw_122 : m_cw 122 ∈ m_TB := List.mem_filter.mpr ⟨List.mem_of_getElem? (i := 974) rfl, rfl⟩
set_option maxRecDepth 20000 in
theorem m_cw_123 : m_cw 123 ∈ m_TB := List.mem_filter.mpr ⟨List.mem_of_getElem? (i := 1010) rfl, rfl⟩
set_option maxRecDepth 20000 in
theorem m_cw_124 : m_cw 124 ∈ m_TB := List.mem_filter.mpr ⟨List.mem_of_getElem? (i := 1017) rfl, rfl⟩
set_option maxRecDepth 20000 in
theorem m_cw_125 : m_cw 125 ∈ m_TB := List.mem_filter.mpr ⟨List.mem_of_getElem? (i := 1021) rfl, rfl⟩
set_option maxRecDepth 20000 in
theorem m_cw_126 : m_cw 126 ∈ m_TB := List.mem_filter.mpr ⟨List.mem_of_getElem? (i := 1006) rfl, rfl⟩
set_option maxRecDepth 20000 in
theorem m_cw_127 : m_cw 127 ∈ m_TB := List.mem_filter.mpr ⟨List.mem_of_getElem? (i := 1002) rfl, rfl⟩
set_option maxRecDepth 20000 in
theorem m_cw_128 : m_cw 128 ∈ m_TB := List.mem_filter.mpr ⟨List.mem_of_getElem? (i := 998) rfl, rfl⟩
set_option maxRecDepth 20000 in
theorem m_cw_129 : m_cw 129 ∈ m_TB := List.mem_filter.mpr ⟨List.mem_of_getElem? (i := 1028) rfl, rfl⟩
set_option maxRecDepth 20000 in
theorem m_cw_130 : m_cw 130 ∈ m_TB := List.mem_filter.mpr ⟨List.mem_of_getElem? (i := 1025) rfl, rfl⟩
set_option maxRecDepth 20000 in
theorem m_cw_131 : m_cw 131 ∈ m_TB := List.mem_filter.mpr ⟨List.mem_of_getElem? (i := 1032) rfl, rfl⟩
set_option maxRecDepth 20000 in
theorem m_cw_132 : m_cw 132 ∈ m_TB := List.mem_filter.mpr ⟨List.mem_of_getElem? (i := 1036) rfl, rfl⟩
set_option maxRecDepth 20000 in
theorem m_cw_133 : m_cw 133 ∈ m_TB := List.mem_filter.mpr ⟨List.mem_of_getElem? (i := 1041) rfl, rfl⟩
set_option maxRecDepth 20000 in
theorem m_cw_134 : m_cw 134 ∈ m_TB := List.mem_filter.mpr ⟨List.mem_of_getElem? (i := 1065) rfl, rfl⟩
set_option maxRecDepth 20000 in
theorem m_cw_135 : m_cw 135 ∈ m_TB := List.mem_filter.mpr ⟨List.mem_of_getElem? (i := 1072) rfl, rfl⟩
set_option maxRecDepth 20000 in
theorem m_cw_136 : m_cw 136 ∈ m_TB := List.mem_filter.mpr ⟨List.mem_of_getElem? (i := 1075) rfl, rfl⟩
set_option maxRecDepth 20000 in
theorem m_cw_137 : m_cw 137 ∈ m_TB := List.mem_filter.mpr ⟨List.mem_of_getElem? (i := 1061) rfl, rfl⟩
set_option maxRecDepth 20000 in
theorem m_cw_138 : m_cw 138 ∈ m_TB := List.mem_filter.mpr ⟨List.mem_of_getElem? (i := 1058) rfl, rfl⟩
set_option maxRecDepth 20000 in
theorem m_cw_139 : m_cw 139 ∈ m_TB := List.mem_filter.mpr ⟨List.mem_of_getElem? (i := 1069) rfl, rfl⟩
set_option maxRecDepth 20000 in
theorem m_cw_140 : m_cw 140 ∈ m_TB := List.mem_filter.mpr ⟨List.mem_of_getElem? (i := 1054) rfl, rfl⟩
set_option maxRecDepth 20000 in
theorem m_cw_141 : m_cw 141 ∈ m_TB := List.mem_filter.mpr ⟨List.mem_of_getElem? (i := 1079) rfl, rfl⟩
set_option maxRecDepth 20000 in
theorem m_cw_142 : m_cw 142 ∈ m_TB := List.mem_filter.mpr ⟨List.mem_of_getElem? (i := 1050) rfl, rfl⟩
set_option maxRecDepth 20000 in
theorem m_cw_143 : m_cw 143 ∈ m_TB := List.mem_filter.mpr ⟨List.mem_of_getElem? (i := 1045) rfl, rfl⟩
set_option maxRecDepth 20000 in
theorem m_cw_144 : m_cw 144 ∈ m_TB := List.mem_filter.mpr ⟨List.mem_of_getElem? (i := 1086) rfl, rfl⟩
set_option maxRecDepth 20000 in
theorem m_cw_145 : m_cw 145 ∈ m_TB := List.mem_filter.mpr ⟨List.mem_of_getElem? (i := 1094) rfl, rfl⟩
set_option maxRecDepth 20000 in
theorem m_cw_146 : m_cw 146 ∈ m_TB := List.mem_filter.mpr ⟨List.mem_of_getElem? (i := 1090) rfl, rfl⟩
set_option maxRecDepth 20000 in
theorem m_cw_147 : m_cw 147 ∈ m_TB := List.mem_filter.mpr ⟨List.mem_of_getElem? (i := 1098) rfl, rfl⟩
set_option maxRecDepth 20000 in
theorem m_cw_148 : m_cw 148 ∈ m_TB := List.mem_filter.mpr ⟨List.mem_of_getElem? (i := 1102) rfl, rfl⟩
set_option maxRecDepth 20000 in
theorem m_cw_149 : m_cw 149 ∈ m_TB := List.mem_filter.mpr ⟨List.mem_of_getElem? (i := 1119) rfl, rfl⟩
set_option maxRecDepth 20000 in
theorem m_cw_150 : m_cw 150 ∈ m_TB := List.mem_filter.mpr ⟨List.mem_of_getElem? (i := 1115) rfl, rfl⟩
set_option maxRecDepth 20000 in
theorem m_cw_151 : m_cw 151 ∈ m_TB := List.mem_filter.mpr ⟨List.mem_of_getElem? (i := 1111) rfl, rfl⟩
set_option maxRecDepth 20000 in
theorem m_cw_152 : m_cw 152 ∈ m_TB := List.mem_filter.mpr ⟨List.mem_of_getElem? (i := 1107) rfl, rfl⟩
set_option maxRecDepth 20000 in
theorem m_cw_153 : m_cw 153 ∈ m_TB := List.mem_filter.mpr ⟨List.mem_of_getElem? (i := 1127) rfl, rfl⟩
set_option maxRecDepth 20000 in
theorem m_cw_154 : m_cw 154 ∈ m_TB := List.mem_filter.mpr ⟨List.mem_of_getElem? (i := 1123) rfl, rfl⟩
set_option maxRecDepth 20000 in
theorem m_cw_155 : m_cw 155 ∈ m_TB := List.mem_filter.mpr ⟨List.mem_of_getElem? (i := 1137) rfl, rfl⟩
set_option maxRecDepth 20000 in
theorem m_cw_156 : m_cw 156 ∈ m_TB := List.mem_filter.mpr ⟨List.mem_of_getElem? (i := 1131) rfl, rfl⟩
set_option maxRecDepth 20000 in
theorem m_cw_157 : m_cw 157 ∈ m_TB := List.mem_filter.mpr ⟨List.mem_of_getElem? (i := 1153) rfl, rfl⟩
set_option maxRecDepth 20000 in
theorem m_cw_158 : m_cw 158 ∈ m_TB := List.mem_filter.mpr ⟨List.mem_of_getElem? (i := 1149) rfl, rfl⟩
set_option maxRecDepth 20000 in
theorem m_cw_159 : m_cw 159 ∈ m_TB := List.mem_filter.mpr ⟨List.mem_of_getElem? (i := 1145) rfl, rfl⟩
set_option maxRecDepth 20000 in
theorem m_cw_160 : m_cw 160 ∈ m_TB := List.mem_filter.mpr ⟨List.mem_of_getElem? (i := 1141) rfl, rfl⟩
set_option maxRecDepth 20000 in
theorem m_cw_161 : m_cw 161 ∈ m_TB := List.mem_filter.mpr ⟨List.mem_of_getElem? (i := 1157) rfl, rfl⟩
set_option maxRecDepth 20000 in
theorem m_cw_162 : m_cw 162 ∈ m_TB := List.mem_filter.mpr ⟨List.mem_of_getElem? (i := 1166) rfl, rfl⟩
set_option maxRecDepth 20000 in
theorem m_cw_163 : m_cw 163 ∈ m_TB := List.mem_filter.mpr ⟨List.mem_of_getElem? (i := 1161) rfl, rfl⟩
set_option maxRecDepth 20000 in
theorem m_cw_164 : m_cw 164 ∈ m_TB := List.mem_filter.mpr ⟨List.mem_of_getElem? (i := 1170) rfl, rfl⟩
set_option maxRecDepth 20000 in
theorem m_cw_165 : m_cw 165 ∈ m_TB := List.mem_filter.mpr ⟨List.mem_of_getElem? (i := 1178) rfl, rfl⟩
set_option maxRecDepth 20000 in
theorem m_cw_166 : m_cw 166 ∈ m_TB := List.mem_filter.mpr ⟨List.mem_of_getElem? (i := 1174) rfl, rfl⟩
set_option maxRecDepth 20000 in
theorem m_cw_167 : m_cw 167 ∈ m_TB := List.mem_filter.mpr ⟨List.mem_of_getElem? (i := 1187) rfl, rfl⟩
set_option maxRecDepth 20000 in
theorem m_cw_168 : m_cw 168 ∈ m_TB := List.mem_filter.mpr ⟨List.mem_of_getElem? (i := 1182) rfl, rfl⟩
set_option maxRecDepth 20000 in
theorem m_cw_169 : m_cw 169 ∈ m_TB := List.mem_filter.mpr ⟨List.mem_of_getElem? (i := 509) rfl, rfl⟩
set_option maxRecDepth 20000 in
theorem m_cw_170 : m_cw 170 ∈ m_TB := List.mem_filter.mpr ⟨List.mem_of_getElem? (i := 614) rfl, rfl⟩
set_option maxRecDepth 20000 in
theorem m_cw_171 : m_cw 171 ∈ m_TB := List.mem_filter.mpr ⟨List.mem_of_getElem? (i := 381) rfl, rfl⟩
set_option maxRecDepth 20000 in
theorem m_cw_172 : m_cw 172 ∈ m_TB := List.mem_filter.mpr ⟨List.mem_of_getElem? (i := 586) rfl, rfl⟩
set_option maxRecDepth 20000 in
theorem m_cw_173 : m_cw 173 ∈ m_TB := List.mem_filter.mpr ⟨List.mem_of_getElem? (i := 371) rfl, rfl⟩
def m_okM (m : Nat) : Bool := decide ((m_nam m).cls ≠ "java/lang/invoke/MethodHandle") && decide ((m_nam m).cls ≠ "java/lang/invoke/VarHandle")
def m_pos : Nat → List Nat → List Nat
  | _, [] => []
  | i, w :: r => if w = 2 then i :: m_pos (i + 2) r else m_pos (i + 1) r
def m_okR (m : Nat) : Bool := decide (m_oN (m_own m) = (m_nam m).cls) && decide ((m_wid m).sum ≤ m_maxL m) && (m_wid m).all (fun w => w == 1 || w == 2) && (m_pos 0 (m_wid m)).all (fun i => (m_LS m).contains i)
theorem m_okM_0 : ((List.range 35).map (0 + ·)).all m_okM = true := by decide +kernel
theorem m_okM_35 : ((List.range 35).map (35 + ·)).all m_okM = true := by decide +kernel
theorem m_okM_70 : ((List.range 35).map (70 + ·)).all m_okM = true := by decide +kernel
theorem m_okM_105 : ((List.range 35).map (105 + ·)).all m_okM = true := by decide +kernel
theorem m_okM_140 : ((List.range 34).map (140 + ·)).all m_okM = true := by decide +kernel
theorem m_okM_all {m : Nat} (h : m < 174) : m_okM m = true := by
  by_cases h0 : m < 35
  · exact List.all_eq_true.mp m_okM_0 m (List.mem_map.mpr ⟨m - 0, List.mem_range.mpr (by omega), by omega⟩)
  by_cases h35 : m < 70
  · exact List.all_eq_true.mp m_okM_35 m (List.mem_map.mpr ⟨m - 35, List.mem_range.mpr (by omega), by omega⟩)
  by_cases h70 : m < 105
  · exact List.all_eq_true.mp m_okM_70 m (List.mem_map.mpr ⟨m - 70, List.mem_range.mpr (by omega), by omega⟩)
  by_cases h105 : m < 140
  · exact List.all_eq_true.mp m_okM_105 m (List.mem_map.mpr ⟨m - 105, List.mem_range.mpr (by omega), by omega⟩)
  by_cases h140 : m < 174
  · exact List.all_eq_true.mp m_okM_140 m (List.mem_map.mpr ⟨m - 140, List.mem_range.mpr (by omega), by omega⟩)
  omega
theorem m_cw_in {m : Nat} (h : m < 174) : m_cw m ∈ m_TB := by
  by_cases h87 : m < 87
  · by_cases h43 : m < 43
    · by_cases h21 : m < 21
      · by_cases h10 : m < 10
        · by_cases h5 : m < 5
          · by_cases h2 : m < 2
            · by_cases h1 : m < 1
              · exact (show m = 0 by omega) ▸ m_cw_0
              · exact (show m = 1 by omega) ▸ m_cw_1
            · by_cases h3 : m < 3
              · exact (show m = 2 by omega) ▸ m_cw_2
              · by_cases h4 : m < 4
                · exact (show m = 3 by omega) ▸ m_cw_3
                · exact (show m = 4 by omega) ▸ m_cw_4
          · by_cases h7 : m < 7
            · by_cases h6 : m < 6
              · exact (show m = 5 by omega) ▸ m_cw_5
              · exact (show m = 6 by omega) ▸ m_cw_6
            · by_cases h8 : m < 8
              · exact (show m = 7 by omega) ▸ m_cw_7
              · by_cases h9 : m < 9
                · exact (show m = 8 by omega) ▸ m_cw_8
                · exact (show m = 9 by omega) ▸ m_cw_9
        · by_cases h15 : m < 15
          · by_cases h12 : m < 12
            · by_cases h11 : m < 11
              · exact (show m = 10 by omega) ▸ m_cw_10
              · exact (show m = 11 by omega) ▸ m_cw_11
            · by_cases h13 : m < 13
              · exact (show m = 12 by omega) ▸ m_cw_12
              · by_cases h14 : m < 14
                · exact (show m = 13 by omega) ▸ m_cw_13
                · exact (show m = 14 by omega) ▸ m_cw_14
          · by_cases h18 : m < 18
            · by_cases h16 : m < 16
              · exact (show m = 15 by omega) ▸ m_cw_15
              · by_cases h17 : m < 17
                · exact (show m = 16 by omega) ▸ m_cw_16
                · exact (show m = 17 by omega) ▸ m_cw_17
            · by_cases h19 : m < 19
              · exact (show m = 18 by omega) ▸ m_cw_18
              · by_cases h20 : m < 20
                · exact (show m = 19 by omega) ▸ m_cw_19
                · exact (show m = 20 by omega) ▸ m_cw_20
      · by_cases h32 : m < 32
        · by_cases h26 : m < 26
          · by_cases h23 : m < 23
            · by_cases h22 : m < 22
              · exact (show m = 21 by omega) ▸ m_cw_21
              · exact (show m = 22 by omega) ▸ m_cw_22
            · by_cases h24 : m < 24
              · exact (show m = 23 by omega) ▸ m_cw_23
              · by_cases h25 : m < 25
                · exact (show m = 24 by omega) ▸ m_cw_24
                · exact (show m = 25 by omega) ▸ m_cw_25
          · by_cases h29 : m < 29
            · by_cases h27 : m < 27
              · exact (show m = 26 by omega) ▸ m_cw_26
              · by_cases h28 : m < 28
                · exact (show m = 27 by omega) ▸ m_cw_27
                · exact (show m = 28 by omega) ▸ m_cw_28
            · by_cases h30 : m < 30
              · exact (show m = 29 by omega) ▸ m_cw_29
              · by_cases h31 : m < 31
                · exact (show m = 30 by omega) ▸ m_cw_30
                · exact (show m = 31 by omega) ▸ m_cw_31
        · by_cases h37 : m < 37
          · by_cases h34 : m < 34
            · by_cases h33 : m < 33
              · exact (show m = 32 by omega) ▸ m_cw_32
              · exact (show m = 33 by omega) ▸ m_cw_33
            · by_cases h35 : m < 35
              · exact (show m = 34 by omega) ▸ m_cw_34
              · by_cases h36 : m < 36
                · exact (show m = 35 by omega) ▸ m_cw_35
                · exact (show m = 36 by omega) ▸ m_cw_36
          · by_cases h40 : m < 40
            · by_cases h38 : m < 38
              · exact (show m = 37 by omega) ▸ m_cw_37
              · by_cases h39 : m < 39
                · exact (show m = 38 by omega) ▸ m_cw_38
                · exact (show m = 39 by omega) ▸ m_cw_39
            · by_cases h41 : m < 41
              · exact (show m = 40 by omega) ▸ m_cw_40
              · by_cases h42 : m < 42
                · exact (show m = 41 by omega) ▸ m_cw_41
                · exact (show m = 42 by omega) ▸ m_cw_42
    · by_cases h65 : m < 65
      · by_cases h54 : m < 54
        · by_cases h48 : m < 48
          · by_cases h45 : m < 45
            · by_cases h44 : m < 44
              · exact (show m = 43 by omega) ▸ m_cw_43
              · exact (show m = 44 by omega) ▸ m_cw_44
            · by_cases h46 : m < 46
              · exact (show m = 45 by omega) ▸ m_cw_45
              · by_cases h47 : m < 47
                · exact (show m = 46 by omega) ▸ m_cw_46
                · exact (show m = 47 by omega) ▸ m_cw_47
          · by_cases h51 : m < 51
            · by_cases h49 : m < 49
              · exact (show m = 48 by omega) ▸ m_cw_48
              · by_cases h50 : m < 50
                · exact (show m = 49 by omega) ▸ m_cw_49
                · exact (show m = 50 by omega) ▸ m_cw_50
            · by_cases h52 : m < 52
              · exact (show m = 51 by omega) ▸ m_cw_51
              · by_cases h53 : m < 53
                · exact (show m = 52 by omega) ▸ m_cw_52
                · exact (show m = 53 by omega) ▸ m_cw_53
        · by_cases h59 : m < 59
          · by_cases h56 : m < 56
            · by_cases h55 : m < 55
              · exact (show m = 54 by omega) ▸ m_cw_54
              · exact (show m = 55 by omega) ▸ m_cw_55
            · by_cases h57 : m < 57
              · exact (show m = 56 by omega) ▸ m_cw_56
              · by_cases h58 : m < 58
                · exact (show m = 57 by omega) ▸ m_cw_57
                · exact (show m = 58 by omega) ▸ m_cw_58
          · by_cases h62 : m < 62
            · by_cases h60 : m < 60
              · exact (show m = 59 by omega) ▸ m_cw_59
              · by_cases h61 : m < 61
                · exact (show m = 60 by omega) ▸ m_cw_60
                · exact (show m = 61 by omega) ▸ m_cw_61
            · by_cases h63 : m < 63
              · exact (show m = 62 by omega) ▸ m_cw_62
              · by_cases h64 : m < 64
                · exact (show m = 63 by omega) ▸ m_cw_63
                · exact (show m = 64 by omega) ▸ m_cw_64
      · by_cases h76 : m < 76
        · by_cases h70 : m < 70
          · by_cases h67 : m < 67
            · by_cases h66 : m < 66
              · exact (show m = 65 by omega) ▸ m_cw_65
              · exact (show m = 66 by omega) ▸ m_cw_66
            · by_cases h68 : m < 68
              · exact (show m = 67 by omega) ▸ m_cw_67
              · by_cases h69 : m < 69
                · exact (show m = 68 by omega) ▸ m_cw_68
                · exact (show m = 69 by omega) ▸ m_cw_69
          · by_cases h73 : m < 73
            · by_cases h71 : m < 71
              · exact (show m = 70 by omega) ▸ m_cw_70
              · by_cases h72 : m < 72
                · exact (show m = 71 by omega) ▸ m_cw_71
                · exact (show m = 72 by omega) ▸ m_cw_72
            · by_cases h74 : m < 74
              · exact (show m = 73 by omega) ▸ m_cw_73
              · by_cases h75 : m < 75
                · exact (show m = 74 by omega) ▸ m_cw_74
                · exact (show m = 75 by omega) ▸ m_cw_75
        · by_cases h81 : m < 81
          · by_cases h78 : m < 78
            · by_cases h77 : m < 77
              · exact (show m = 76 by omega) ▸ m_cw_76
              · exact (show m = 77 by omega) ▸ m_cw_77
            · by_cases h79 : m < 79
              · exact (show m = 78 by omega) ▸ m_cw_78
              · by_cases h80 : m < 80
                · exact (show m = 79 by omega) ▸ m_cw_79
                · exact (show m = 80 by omega) ▸ m_cw_80
          · by_cases h84 : m < 84
            · by_cases h82 : m < 82
              · exact (show m = 81 by omega) ▸ m_cw_81
              · by_cases h83 : m < 83
                · exact (show m = 82 by omega) ▸ m_cw_82
                · exact (show m = 83 by omega) ▸ m_cw_83
            · by_cases h85 : m < 85
              · exact (show m = 84 by omega) ▸ m_cw_84
              · by_cases h86 : m < 86
                · exact (show m = 85 by omega) ▸ m_cw_85
                · exact (show m = 86 by omega) ▸ m_cw_86
  · by_cases h130 : m < 130
    · by_cases h108 : m < 108
      · by_cases h97 : m < 97
        · by_cases h92 : m < 92
          · by_cases h89 : m < 89
            · by_cases h88 : m < 88
              · exact (show m = 87 by omega) ▸ m_cw_87
              · exact (show m = 88 by omega) ▸ m_cw_88
            · by_cases h90 : m < 90
              · exact (show m = 89 by omega) ▸ m_cw_89
              · by_cases h91 : m < 91
                · exact (show m = 90 by omega) ▸ m_cw_90
                · exact (show m = 91 by omega) ▸ m_cw_91
          · by_cases h94 : m < 94
            · by_cases h93 : m < 93
              · exact (show m = 92 by omega) ▸ m_cw_92
              · exact (show m = 93 by omega) ▸ m_cw_93
            · by_cases h95 : m < 95
              · exact (show m = 94 by omega) ▸ m_cw_94
              · by_cases h96 : m < 96
                · exact (show m = 95 by omega) ▸ m_cw_95
                · exact (show m = 96 by omega) ▸ m_cw_96
        · by_cases h102 : m < 102
          · by_cases h99 : m < 99
            · by_cases h98 : m < 98
              · exact (show m = 97 by omega) ▸ m_cw_97
              · exact (show m = 98 by omega) ▸ m_cw_98
            · by_cases h100 : m < 100
              · exact (show m = 99 by omega) ▸ m_cw_99
              · by_cases h101 : m < 101
                · exact (show m = 100 by omega) ▸ m_cw_100
                · exact (show m = 101 by omega) ▸ m_cw_101
          · by_cases h105 : m < 105
            · by_cases h103 : m < 103
              · exact (show m = 102 by omega) ▸ m_cw_102
              · by_cases h104 : m < 104
                · exact (show m = 103 by omega) ▸ m_cw_103
                · exact (show m = 104 by omega) ▸ m_cw_104
            · by_cases h106 : m < 106
              · exact (show m = 105 by omega) ▸ m_cw_105
              · by_cases h107 : m < 107
                · exact (show m = 106 by omega) ▸ m_cw_106
                · exact (show m = 107 by omega) ▸ m_cw_107
      · by_cases h119 : m < 119
        · by_cases h113 : m < 113
          · by_cases h110 : m < 110
            · by_cases h109 : m < 109
              · exact (show m = 108 by omega) ▸ m_cw_108
              · exact (show m = 109 by omega) ▸ m_cw_109
            · by_cases h111 : m < 111
              · exact (show m = 110 by omega) ▸ m_cw_110
              · by_cases h112 : m < 112
                · exact (show m = 111 by omega) ▸ m_cw_111
                · exact (show m = 112 by omega) ▸ m_cw_112
          · by_cases h116 : m < 116
            · by_cases h114 : m < 114
              · exact (show m = 113 by omega) ▸ m_cw_113
              · by_cases h115 : m < 115
                · exact (show m = 114 by omega) ▸ m_cw_114
                · exact (show m = 115 by omega) ▸ m_cw_115
            · by_cases h117 : m < 117
              · exact (show m = 116 by omega) ▸ m_cw_116
              · by_cases h118 : m < 118
                · exact (show m = 117 by omega) ▸ m_cw_117
                · exact (show m = 118 by omega) ▸ m_cw_118
        · by_cases h124 : m < 124
          · by_cases h121 : m < 121
            · by_cases h120 : m < 120
              · exact (show m = 119 by omega) ▸ m_cw_119
              · exact (show m = 120 by omega) ▸ m_cw_120
            · by_cases h122 : m < 122
              · exact (show m = 121 by omega) ▸ m_cw_121
              · by_cases h123 : m < 123
                · exact (show m = 122 by omega) ▸ m_cw_122
                · exact (show m = 123 by omega) ▸ m_cw_123
          · by_cases h127 : m < 127
            · by_cases h125 : m < 125
              · exact (show m = 124 by omega) ▸ m_cw_124
              · by_cases h126 : m < 126
                · exact (show m = 125 by omega) ▸ m_cw_125
                · exact (show m = 126 by omega) ▸ m_cw_126
            · by_cases h128 : m < 128
              · exact (show m = 127 by omega) ▸ m_cw_127
              · by_cases h129 : m < 129
                · exact (show m = 128 by omega) ▸ m_cw_128
                · exact (show m = 129 by omega) ▸ m_cw_129
    · by_cases h152 : m < 152
      · by_cases h141 : m < 141
        · by_cases h135 : m < 135
          · by_cases h132 : m < 132
            · by_cases h131 : m < 131
              · exact (show m = 130 by omega) ▸ m_cw_130
              · exact (show m = 131 by omega) ▸ m_cw_131
            · by_cases h133 : m < 133
              · exact (show m = 132 by omega) ▸ m_cw_132
              · by_cases h134 : m < 134
                · exact (show m = 133 by omega) ▸ m_cw_133
                · exact (show m = 134 by omega) ▸ m_cw_134
          · by_cases h138 : m < 138
            · by_cases h136 : m < 136
              · exact (show m = 135 by omega) ▸ m_cw_135
              · by_cases h137 : m < 137
                · exact (show m = 136 by omega) ▸ m_cw_136
                · exact (show m = 137 by omega) ▸ m_cw_137
            · by_cases h139 : m < 139
              · exact (show m = 138 by omega) ▸ m_cw_138
              · by_cases h140 : m < 140
                · exact (show m = 139 by omega) ▸ m_cw_139
                · exact (show m = 140 by omega) ▸ m_cw_140
        · by_cases h146 : m < 146
          · by_cases h143 : m < 143
            · by_cases h142 : m < 142
              · exact (show m = 141 by omega) ▸ m_cw_141
              · exact (show m = 142 by omega) ▸ m_cw_142
            · by_cases h144 : m < 144
              · exact (show m = 143 by omega) ▸ m_cw_143
              · by_cases h145 : m < 145
                · exact (show m = 144 by omega) ▸ m_cw_144
                · exact (show m = 145 by omega) ▸ m_cw_145
          · by_cases h149 : m < 149
            · by_cases h147 : m < 147
              · exact (show m = 146 by omega) ▸ m_cw_146
              · by_cases h148 : m < 148
                · exact (show m = 147 by omega) ▸ m_cw_147
                · exact (show m = 148 by omega) ▸ m_cw_148
            · by_cases h150 : m < 150
              · exact (show m = 149 by omega) ▸ m_cw_149
              · by_cases h151 : m < 151
                · exact (show m = 150 by omega) ▸ m_cw_150
                · exact (show m = 151 by omega) ▸ m_cw_151
      · by_cases h163 : m < 163
        · by_cases h157 : m < 157
          · by_cases h154 : m < 154
            · by_cases h153 : m < 153
              · exact (show m = 152 by omega) ▸ m_cw_152
              · exact (show m = 153 by omega) ▸ m_cw_153
            · by_cases h155 : m < 155
              · exact (show m = 154 by omega) ▸ m_cw_154
              · by_cases h156 : m < 156
                · exact (show m = 155 by omega) ▸ m_cw_155
                · exact (show m = 156 by omega) ▸ m_cw_156
          · by_cases h160 : m < 160
            · by_cases h158 : m < 158
              · exact (show m = 157 by omega) ▸ m_cw_157
              · by_cases h159 : m < 159
                · exact (show m = 158 by omega) ▸ m_cw_158
                · exact (show m = 159 by omega) ▸ m_cw_159
            · by_cases h161 : m < 161
              · exact (show m = 160 by omega) ▸ m_cw_160
              · by_cases h162 : m < 162
                · exact (show m = 161 by omega) ▸ m_cw_161
                · exact (show m = 162 by omega) ▸ m_cw_162
        · by_cases h168 : m < 168
          · by_cases h165 : m < 165
            · by_cases h164 : m < 164
              · exact (show m = 163 by omega) ▸ m_cw_163
              · exact (show m = 164 by omega) ▸ m_cw_164
            · by_cases h166 : m < 166
              · exact (show m = 165 by omega) ▸ m_cw_165
              · by_cases h167 : m < 167
                · exact (show m = 166 by omega) ▸ m_cw_166
                · exact (show m = 167 by omega) ▸ m_cw_167
          · by_cases h171 : m < 171
            · by_cases h169 : m < 169
              · exact (show m = 168 by omega) ▸ m_cw_168
              · by_cases h170 : m < 170
                · exact (show m = 169 by omega) ▸ m_cw_169
                · exact (show m = 170 by omega) ▸ m_cw_170
            · by_cases h172 : m < 172
              · exact (show m = 171 by omega) ▸ m_cw_171
              · by_cases h173 : m < 173
                · exact (show m = 172 by omega) ▸ m_cw_172
                · exact (show m = 173 by omega) ▸ m_cw_173
theorem m_okR_all : (List.range 175).all m_okR = true := by decide +kernel
theorem m_okR_at {m : Nat} (h : m < 175) : m_okR m = true := List.all_eq_true.mp m_okR_all m (List.mem_range.mpr h)
def m_LY : List (Nat × Nat × List Nat) := [(155, 68, [173, 175, 177, 179, 181, 183, 185]), (647, 78, [658, 660, 662]), (189, 69, [202, 204, 206, 208]), (364, 72, [429, 431, 433, 435, 437, 439, 441, 443, 445, 447, 449, 451, 453, 455, 457, 459]), (94, 66, [114, 116, 118, 120, 122, 124, 126, 128]), (212, 70, [219, 221]), (469, 76, [478, 480]), (134, 67, [145, 147, 149, 151]), (80, 64, [239, 241, 243, 245, 247, 249, 251, 253, 255, 257, 259, 261, 263, 265, 267]), (793, 71, [836, 838, 840, 842, 844, 846, 848, 850, 852, 854, 856, 858, 860, 862, 864, 866, 868, 870, 872, 874, 876, 878, 880, 882, 884, 886, 888, 890, 892, 894, 896, 898, 900, 902, 904, 906, 908, 910])]
def m_okK (c : Nat) : Bool := m_at (m_LY.getD c (0, 0, [])).1 (.instantiable (m_Rn c) (m_nf c)) && m_at (m_LY.getD c (0, 0, [])).2.1 (.initialized (m_Rn c)) && decide (((m_LY.getD c (0, 0, [])).2.2).length = m_nf c) && (List.range (m_nf c)).all (fun k => m_at ((m_LY.getD c (0, 0, [])).2.2.getD k 0) (u_lay (m_Rn c) (m_T c) k)) && decide (vwCl[c]?.map (fun q => (q.1, q.2.2)) = some (m_Rn c, m_nf c))
theorem m_okK_all : (List.range 10).all m_okK = true := by decide +kernel
theorem m_okK_at {c : Nat} (h : c < 10) : m_okK c = true := List.all_eq_true.mp m_okK_all c (List.mem_range.mpr h)
theorem m_vw {c : Nat} (h : c < 10) : vwCl[c]? = some (m_Rn c, m_T c, m_nf c) := by
  rcases (show c = 0 ∨ c = 1 ∨ c = 2 ∨ c = 3 ∨ c = 4 ∨ c = 5 ∨ c = 6 ∨ c = 7 ∨ c = 8 ∨ c = 9 by omega) with rfl | rfl | rfl | rfl | rfl | rfl | rfl | rfl | rfl | rfl <;> rfl
theorem m_tyok {c : Nat} (h : c < 10) : ∀ k, k < m_nf c → parseFieldDescriptor (m_T c k).2.2.1 = some (m_ty c k) := by
  rcases (show c = 0 ∨ c = 1 ∨ c = 2 ∨ c = 3 ∨ c = 4 ∨ c = 5 ∨ c = 6 ∨ c = 7 ∨ c = 8 ∨ c = 9 by omega) with rfl | rfl | rfl | rfl | rfl | rfl | rfl | rfl | rfl | rfl
  · exact tyX0_ok
  · exact tyX1_ok
  · exact tyX2_ok
  · exact tyX3_ok
  · exact tyX4_ok
  · exact tyX5_ok
  · exact tyX7_ok
  · exact tyX8_ok
  · exact tyX9_ok
  · exact tyX10_ok
theorem m_nmok {c : Nat} (h : c < 10) : ∀ a, a < m_nf c → ∀ b, b < m_nf c → a ≠ b → (m_T c a).2.1 ≠ (m_T c b).2.1 := by
  rcases (show c = 0 ∨ c = 1 ∨ c = 2 ∨ c = 3 ∨ c = 4 ∨ c = 5 ∨ c = 6 ∨ c = 7 ∨ c = 8 ∨ c = 9 by omega) with rfl | rfl | rfl | rfl | rfl | rfl | rfl | rfl | rfl | rfl
  · exact nmX0
  · exact nmX1
  · exact nmX2
  · exact nmX3
  · exact nmX4
  · exact nmX5
  · exact nmX7
  · exact nmX8
  · exact nmX9
  · exact nmX10
theorem m_layok {c : Nat} (h : c < 10) : ∀ w ∈ u_ws (m_Rn c) (m_T c) (m_nf c), w ∈ m_TB := by
  intro w hw
  obtain ⟨k, hk, rfl⟩ := List.mem_map.mp hw
  have q := m_okK_at h
  unfold m_okK at q
  simp only [Bool.and_eq_true] at q
  exact m_at_in (List.all_eq_true.mp q.1.2 k hk)
theorem m_inst {c : Nat} (h : c < 10) : Cond.instantiable (m_Rn c) (m_nf c) ∈ m_TB := by
  have q := m_okK_at h
  unfold m_okK at q
  simp only [Bool.and_eq_true] at q
  exact m_at_in q.1.1.1.1
theorem m_init {c : Nat} (h : c < 10) : Cond.initialized (m_Rn c) ∈ m_TB := by
  have q := m_okK_at h
  unfold m_okK at q
  simp only [Bool.and_eq_true] at q
  exact m_at_in q.1.1.1.2
def m_okF (q : Nat × Nat × (Nat × Nat) × Nat) : Bool := m_at q.2.2.2 (.fieldLink (m_oN q.1) q.2.1 (m_T q.2.2.1.1 q.2.2.1.2).1 (m_T q.2.2.1.1 q.2.2.1.2).2.1 (m_T q.2.2.1.1 q.2.2.1.2).2.2.1) && decide (q.2.2.1.1 < 10) && decide (q.2.2.1.2 < m_nf q.2.2.1.1)
theorem m_okF_all : m_LF.all m_okF = true := by decide +kernel
def m_okI (q : Nat × Nat × Int32 × Nat) : Bool := m_at q.2.2.2 (.constant (m_oN q.1) q.2.1 q.2.2.1)
theorem m_okI_all : m_LI.all m_okI = true := by decide +kernel
def m_okJ (q : Nat × Nat × Int64 × Nat) : Bool := m_at q.2.2.2 (.constantLong (m_oN q.1) q.2.1 q.2.2.1)
theorem m_okJ_all : m_LJ.all m_okJ = true := by decide +kernel
def m_okC (q : Nat × Nat × Nat × Nat) : Bool := m_at q.2.2.2 (.classLink (m_oN q.1) q.2.1 (m_Rn q.2.2.1)) && decide (q.2.2.1 < 10)
theorem m_okC_all : m_LC.all m_okC = true := by decide +kernel
def m_npar (y : MethodName) : Option Nat := (parseMethodDescriptor y.desc).map (fun d => d.parameters.length)
theorem m_mx_cw : m_cw m_mx = .code Lib.Math.max.name Lib.Math.max.code 2 (some .int) := by rfl
theorem m_mx_nam : m_nam m_mx = Lib.Math.max.name := by rfl
def m_okT (q : Nat × Nat × (Nat × Nat) × Nat × (Nat × Nat × Nat × Nat)) : Bool := decide (q.2.2.1.1 < 174) && (decide (q.2.2.1.1 = m_mx) || plainName (m_nam q.2.2.1.1).cls) && decide (m_npar (m_nam q.2.2.1.1) = some q.2.2.1.2) && m_at q.2.2.2.2.2.1 (.static (m_nam q.2.2.1.1)) && m_at q.2.2.2.2.2.2.1 (.initialized (m_nam q.2.2.1.1).cls) &&
  (match q.2.2.2.1 with
    | 0 => m_at q.2.2.2.2.1 (.methodLink (m_oN q.1) q.2.1 (m_nam q.2.2.1.1))
    | 1 => m_atN q.2.2.2.2.1 (.methodLinkNest (m_oN q.1) q.2.1 (m_nam q.2.2.1.1) "RowsDrawn")
    | _ => m_at q.2.2.2.2.1 (.methodLink (m_oN q.1) q.2.1 ⟨m_oN q.1, (m_nam q.2.2.1.1).name, (m_nam q.2.2.1.1).desc⟩) && m_at (q.2.2.2.2.1 + 1) (.sameMethod (m_oN q.1) (m_nam q.2.2.1.1).cls (m_nam q.2.2.1.1).name (m_nam q.2.2.1.1).desc))
theorem m_okT_all : m_LT.all m_okT = true := by decide +kernel
def m_okV (q : Nat × Nat × (Nat × List (Nat × Nat)) × Nat × MethodName × (Nat × List (Nat × Nat × Nat × Nat) × Nat × Nat)) : Bool :=
  m_at q.2.2.2.2.2.1 (.methodLink (m_oN q.1) q.2.1 q.2.2.2.2.1) && decide (m_npar q.2.2.2.2.1 = some q.2.2.1.1) && decide (q.2.2.1.2.length = q.2.2.2.2.2.2.1.length) &&
  (List.range q.2.2.1.2.length).all (fun j => decide ((q.2.2.1.2.getD j (0, 0)).1 < 10) && decide ((q.2.2.1.2.getD j (0, 0)).2 < 174) && plainName (m_nam (q.2.2.1.2.getD j (0, 0)).2).cls && decide ((m_nam (q.2.2.1.2.getD j (0, 0)).2).cls = m_Rn (q.2.2.1.2.getD j (0, 0)).1) &&
    m_at (q.2.2.2.2.2.2.1.getD j (0, 0, 0, 0)).1 (.instanceMethod (m_nam (q.2.2.1.2.getD j (0, 0)).2)) && m_at (q.2.2.2.2.2.2.1.getD j (0, 0, 0, 0)).2.1 (.selects (m_Rn (q.2.2.1.2.getD j (0, 0)).1) q.2.2.2.2.1 (m_nam (q.2.2.1.2.getD j (0, 0)).2)) && m_at (q.2.2.2.2.2.2.1.getD j (0, 0, 0, 0)).2.2.1 (.initialized (m_Rn (q.2.2.1.2.getD j (0, 0)).1))) &&
  (match q.2.2.2.1 with
    | 0 => (List.range q.2.2.1.2.length).all (fun j => decide (m_nam (q.2.2.1.2.getD j (0, 0)).2 = q.2.2.2.2.1))
    | _ => m_at q.2.2.2.2.2.2.2.1 (.sameMethod q.2.2.2.2.1.cls q.2.2.2.2.1.cls q.2.2.2.2.1.name q.2.2.2.2.1.desc) && m_atN q.2.2.2.2.2.2.2.2 (.declares q.2.2.2.2.1) && decide (q.2.2.2.2.1.cls ≠ "java/lang/invoke/MethodHandle") && decide (q.2.2.2.2.1.cls ≠ "java/lang/invoke/VarHandle"))
theorem m_okV_0 : m_LV0.all m_okV = true := by decide +kernel
theorem m_okV_1 : m_LV1.all m_okV = true := by decide +kernel
theorem m_okV_2 : m_LV2.all m_okV = true := by decide +kernel
theorem m_okV_3 : m_LV3.all m_okV = true := by decide +kernel
theorem m_okV_all : m_LV.all m_okV = true := by
  unfold m_LV
  simp only [List.all_append, m_okV_0, m_okV_1, m_okV_2, m_okV_3, Bool.and_self]
def m_okP (q : Nat × Nat × Option (Nat × Nat) × Nat × (Nat × Nat × Nat × Nat)) : Bool := match q.2.2.1 with
  | none => m_at q.2.2.2.2.1 (.methodLink (m_oN q.1) q.2.1 Lib.objectInit) && m_at 85 (.instanceMethod Lib.objectInit) && m_at 86 (.code Lib.objectInit ⟨#[0xb1]⟩ 1 none)
  | some z => decide (z.1 < 174) && plainName (m_nam z.1).cls && decide (m_npar (m_nam z.1) = some z.2) && decide ((m_nam z.1).name = "<init>") && decide (m_ret z.1 = none) && m_at q.2.2.2.2.2.1 (.instanceMethod (m_nam z.1)) && m_at q.2.2.2.2.2.2.1 (.initialized (m_nam z.1).cls) &&
    (match q.2.2.2.1 with
      | 0 => m_at q.2.2.2.2.1 (.methodLink (m_oN q.1) q.2.1 (m_nam z.1))
      | _ => m_atN q.2.2.2.2.1 (.methodLinkNest (m_oN q.1) q.2.1 (m_nam z.1) "RowsDrawn"))
theorem m_okP_all : m_LP.all m_okP = true := by decide +kernel
theorem m_find {α : Type} {l : List (Nat × Nat × α)} {o i : Nat} {q : Nat × Nat × α} (h : l.find? (fun q => q.1 == o && q.2.1 == i) = some q) : q ∈ l ∧ q.1 = o ∧ q.2.1 = i := by
  have h1 := List.find?_some h
  simp only [Bool.and_eq_true, beq_iff_eq] at h1
  exact ⟨List.mem_of_find?_eq_some h, h1⟩
