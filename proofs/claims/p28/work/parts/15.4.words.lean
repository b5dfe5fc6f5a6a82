/-! words, further ones -/
def xt_g20 : List Cond := [(Jvm.Cond.code ({ cls := "HexTemplatesLaw", name := "same", desc := "(LHexTemplates;I[I[I[I)Z" } : Jvm.MethodName) method_10_code (16 : Nat) (Option.some Jvm.ClassFile.FieldType.boolean))]
theorem xt_g20_m : ∀ w ∈ xt_g20, w ∈ lw_tbl := by
  intro w hw
  unfold xt_g20 at hw
  rw [List.mem_singleton] at hw
  subst hw
  unfold lw_tbl tables_1
  refine List.mem_append_right _ ?_
  refine List.mem_append_right _ ?_
  refine List.mem_append_right _ ?_
  refine List.mem_append_right _ ?_
  refine List.mem_append_left _ ?_
  unfold tables_1_4
  iterate 220 apply List.mem_cons_of_mem
  exact List.mem_cons_self
theorem xt_g20_t : xt_g20.all xr_tw = true := by decide +kernel
def xt_g21 : List Cond := [(Jvm.Cond.code ({ cls := "HexTemplatesLaw", name := "strings", desc := "(LHexTemplates;ZI[I[I[I)Z" } : Jvm.MethodName) method_12_code (16 : Nat) (Option.some Jvm.ClassFile.FieldType.boolean))]
theorem xt_g21_m : ∀ w ∈ xt_g21, w ∈ lw_tbl := by
  intro w hw
  unfold xt_g21 at hw
  rw [List.mem_singleton] at hw
  subst hw
  unfold lw_tbl tables_1
  refine List.mem_append_right _ ?_
  refine List.mem_append_right _ ?_
  refine List.mem_append_right _ ?_
  refine List.mem_append_right _ ?_
  refine List.mem_append_right _ ?_
  unfold tables_1_5
  iterate 70 apply List.mem_cons_of_mem
  exact List.mem_cons_self
theorem xt_g21_t : xt_g21.all xr_tw = true := by decide +kernel
