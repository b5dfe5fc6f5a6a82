/-! all methods -/
def xt_ms : List xrM := [xm_0, xm_1, xm_2, xm_3, xm_4, xm_5, xm_6, xm_7, xm_8, xm_9, xm_10, xm_11, xm_12, xm_13, xm_14, xm_15, xm_16, xm_17, xm_18, xm_19, xm_20, xm_21, xm_22, xm_23, xm_24, xm_25, xm_26, xm_27, xm_28, xm_29, xm_30, xm_31, xm_32, xm_33, xm_34, xm_35, xm_36, xm_37, xm_38, xm_39, xm_40, xm_41, xm_42, xm_43, xm_44, xm_45, xm_46, xm_47, xm_48, xm_49, xm_50, xm_51, xm_52, xm_53, xm_54, xm_55, xm_56, xm_57, xm_58, xm_59, xm_60, xm_61, xm_62, xm_63, xm_64, xm_65, xm_66, xm_67, xm_68, xm_69, xm_70, xm_71, xm_72, xm_73, xm_74, xm_75, xm_76, xm_77, xm_78, xm_79, xm_80, xm_81, xm_82, xm_83, xm_84, xm_85, xm_86, xm_87, xm_88, xm_89, xm_90, xm_91, xm_92, xm_93, xm_94, xm_95, xm_96, xm_97, xm_98, xm_99, xm_100, xm_101, xm_102, xm_103, xm_104, xm_105, xm_106, xm_107, xm_108, xm_109, xm_110, xm_111, xm_112, xm_113, xm_114, xm_115, xm_116, xm_117, xm_118, xm_119, xm_120, xm_121, xm_122, xm_123, xm_124, xm_125, xm_126, xm_127, xm_128, xm_129, xm_130, xm_131, xm_132, xm_133, xm_134, xm_135, xm_136, xm_137, xm_138, xm_139, xm_140, xm_141, xm_142, xm_143, xm_144, xm_145]
def xt_T (L : Nat) (xs : Nat → Int32) : xrT := (xt_ms, xt_cl, xt_df, L, xs)
def xt_ST : List (String × Nat × String) := [("HexTemplates", 78, "n is out of range"),
  ("HexTemplates", 88, "the tape is full"),
  ("HexTemplates", 102, "there are 30 states, or the file is too long"),
  ("HexTemplates", 108, "rank is out of range"),
  ("HexTemplates", 118, "it is no template, or there are 4"),
  ("HexTemplates", 125, "there is no such place"),
  ("HexTemplates", 148, "there is no such template"),
  ("HexTemplates", 172, "what is out of range"),
  ("HexTemplates", 227, "an argument is out of range"),
  ("HexTemplates", 239, "the field can't be set to that"),
  ("HexTemplates", 251, "value is out of range"),
  ("HexTemplates", 263, "the string would end at that"),
  ("HexTemplates", 322, "there is no such node"),
  ("HexTemplates", 324, "it is no reference"),
  ("HexTemplates", 326, "it is no string, or there is no such place"),
  ("HexTemplates", 328, "the edit is refused"),
  ("HexTemplates", 344, "the edit is refused, or there are 30 states")]
def xt_NC : List (String × String) := [(xr_en 0, xr_en 1), (xr_en 0, xr_en 2), (xr_en 1, xr_en 2), (xr_en 2, xr_en 1)]
def xt_AO : List String := [RX7]
theorem xt_Ks (L : Nat) (xs : Nat → Int32) : xr_Ks (xt_T L xs) xt_GW := by
  intro c C F N h
  have h' : xt_cl[c]? = some (C, F, N) := h
  clear h
  match c, h' with
  | 0, h' =>
    cases h'
    refine ⟨fun w hw => xt_in 25 rfl hw, ⟨tyX0, tyX0_ok, ?_⟩, nmX0, by decide +kernel, rfl, (xt_in 1 rfl (List.mem_of_getElem? (i := 36) rfl)), (xt_in 1 rfl (List.mem_of_getElem? (i := 15) rfl)), (show ∀ v ∈ xt_dX0, v = .null ∨ v = .int 0 ∨ v = .long 0 from by decide +kernel)⟩
    show ∀ j, j < 2 → defaultValue (tyX0 j) = vp_V xt_dX0 j
    decide +kernel
  | 1, h' =>
    cases h'
    refine ⟨fun w hw => xt_in 26 rfl hw, ⟨tyX1, tyX1_ok, ?_⟩, nmX1, by decide +kernel, rfl, (xt_in 4 rfl (List.mem_of_getElem? (i := 13) rfl)), (xt_in 1 rfl (List.mem_of_getElem? (i := 20) rfl)), (show ∀ v ∈ xt_dX1, v = .null ∨ v = .int 0 ∨ v = .long 0 from by decide +kernel)⟩
    show ∀ j, j < 2 → defaultValue (tyX1 j) = vp_V xt_dX1 j
    decide +kernel
  | 2, h' =>
    cases h'
    refine ⟨fun w hw => xt_in 27 rfl hw, ⟨tyX2, tyX2_ok, ?_⟩, nmX2, by decide +kernel, rfl, (xt_in 4 rfl (List.mem_of_getElem? (i := 25) rfl)), (xt_in 1 rfl (List.mem_of_getElem? (i := 21) rfl)), (show ∀ v ∈ xt_dX2, v = .null ∨ v = .int 0 ∨ v = .long 0 from by decide +kernel)⟩
    show ∀ j, j < 3 → defaultValue (tyX2 j) = vp_V xt_dX2 j
    decide +kernel
  | 3, h' =>
    cases h'
    refine ⟨fun w hw => xt_in 28 rfl hw, ⟨tyX3, tyX3_ok, ?_⟩, nmX3, by decide +kernel, rfl, (xt_in 3 rfl (List.mem_of_getElem? (i := 2) rfl)), (xt_in 1 rfl (List.mem_of_getElem? (i := 19) rfl)), (show ∀ v ∈ xt_dX3, v = .null ∨ v = .int 0 ∨ v = .long 0 from by decide +kernel)⟩
    show ∀ j, j < 8 → defaultValue (tyX3 j) = vp_V xt_dX3 j
    decide +kernel
  | 4, h' =>
    cases h'
    refine ⟨fun w hw => xt_in 29 rfl hw, ⟨tyX4, tyX4_ok, ?_⟩, nmX4, by decide +kernel, rfl, (xt_in 2 rfl (List.mem_of_getElem? (i := 11) rfl)), (xt_in 1 rfl (List.mem_of_getElem? (i := 16) rfl)), (show ∀ v ∈ xt_dX4, v = .null ∨ v = .int 0 ∨ v = .long 0 from by decide +kernel)⟩
    show ∀ j, j < 6 → defaultValue (tyX4 j) = vp_V xt_dX4 j
    decide +kernel
  | 5, h' =>
    cases h'
    refine ⟨fun w hw => xt_in 30 rfl hw, ⟨tyX5, tyX5_ok, ?_⟩, nmX5, by decide +kernel, rfl, (xt_in 2 rfl (List.mem_of_getElem? (i := 36) rfl)), (xt_in 1 rfl (List.mem_of_getElem? (i := 18) rfl)), (show ∀ v ∈ xt_dX5, v = .null ∨ v = .int 0 ∨ v = .long 0 from by decide +kernel)⟩
    show ∀ j, j < 11 → defaultValue (tyX5 j) = vp_V xt_dX5 j
    decide +kernel
  | 6, h' =>
    cases h'
    refine ⟨fun w hw => xt_in 31 rfl hw, ⟨tyX6, tyX6_ok, ?_⟩, nmX6, by decide +kernel, rfl, (xt_in 2 rfl (List.mem_of_getElem? (i := 24) rfl)), (xt_in 1 rfl (List.mem_of_getElem? (i := 17) rfl)), (show ∀ v ∈ xt_dX6, v = .null ∨ v = .int 0 ∨ v = .long 0 from by decide +kernel)⟩
    show ∀ j, j < 5 → defaultValue (tyX6 j) = vp_V xt_dX6 j
    decide +kernel
  | 7, h' =>
    cases h'
    refine ⟨fun w hw => xt_in 32 rfl hw, ⟨tyX7, tyX7_ok, ?_⟩, nmX7, by decide +kernel, rfl, (xt_in 6 rfl (List.mem_of_getElem? (i := 10) rfl)), (xt_in 1 rfl (List.mem_of_getElem? (i := 24) rfl)), (show ∀ v ∈ xt_dX7, v = .null ∨ v = .int 0 ∨ v = .long 0 from by decide +kernel)⟩
    show ∀ j, j < 21 → defaultValue (tyX7 j) = vp_V xt_dX7 j
    decide +kernel
  | 8, h' =>
    cases h'
    refine ⟨fun w hw => xt_in 33 rfl hw, ⟨tyX8, tyX8_ok, ?_⟩, nmX8, by decide +kernel, rfl, (xt_in 1 rfl (List.mem_of_getElem? (i := 28) rfl)), (xt_in 1 rfl (List.mem_of_getElem? (i := 14) rfl)), (show ∀ v ∈ xt_dX8, v = .null ∨ v = .int 0 ∨ v = .long 0 from by decide +kernel)⟩
    show ∀ j, j < 12 → defaultValue (tyX8 j) = vp_V xt_dX8 j
    decide +kernel
  | c + 9, h' => simp [xt_cl] at h'
