/-! EVIDENCE for REPORT.md, not a proof of p29: the statement's premises can't be met. The law's own method has an exception table of ten rows; the statement's word for it asks for a method without one. So no launch lists it, and the claim says nothing of the class. This part states nothing that is owed, and is not to be handed in. -/
theorem ev_code : classFile.hasCode x code maxLocals ret = false := by decide +kernel
theorem ev_table : ((textOf? x.name).bind fun n => (textOf? x.desc).bind fun d => (classFile.handlers? n d).map List.length) = some 10 := by decide +kernel
theorem ev_with : ((textOf? x.name).any fun n => (textOf? x.desc).any fun d => (classFile.handlers? n d).any fun hs => classFile.hasCodeWith x code maxLocals ret hs) = true := by decide +kernel
theorem ev_empty (l : Launch) : ¬ Lists l classFile x code maxLocals ret tables_1 room_1 := fun h => by
  have h1 := h.2.2.1.1 (x, code, maxLocals, ret) (List.mem_append_left _ (List.mem_append_left _ (List.mem_singleton.mpr rfl)))
  rw [h.2.1, Option.any_some, ev_code] at h1
  exact Bool.noConfusion h1
