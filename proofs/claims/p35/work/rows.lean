section
/-! The statement is EMPTY: its premise 'Lists' says of the law's own method, by Cond.code, that its class file has no exception table; the law's class file (classFile) has one. So no launch meets the premise, and both claims hold of nothing. -/
theorem em_file : classFile.hasCode x code maxLocals ret = false := by decide +kernel
theorem em_any {F : Jvm.ClassFile.Facts.File} {b : ByteArray} {n : Nat} {r : Option Jvm.ClassFile.FieldType} {y : Jvm.MethodName} (h : F.hasCode y b n r = true) (h0 : F.hasCode y b n r = false) : False := by
  rw [h0] at h; cases h
theorem em_opt {α : Type} {o : Option α} {a : α} {f : α → Bool} (h : o = some a) (h1 : o.any f = true) : f a = true := by
  rw [h] at h1; exact h1
theorem em_none (l : Jvm.Launch) : ¬ Jvm.D.Lists l classFile x code maxLocals ret tables_1 room_1 := by
  intro h
  obtain ⟨_, hf, hfl, _⟩ := h
  have h1 := hfl.1 (x, code, maxLocals, ret) (List.mem_append_left _ (by
    show (x, code, maxLocals, ret) ∈ (Jvm.D.allAtoms (Jvm.Cond.code x code maxLocals ret :: tables_1)).codes
    exact List.mem_append_left _ (List.mem_singleton.mpr rfl)))
  exact em_any (F := classFile) (em_opt (o := l.file? x.cls) (a := classFile) (f := fun f => f.hasCode x code maxLocals ret) hf h1) em_file
theorem i_vc : Claimed_1_1 ∧ Claimed_1_2 :=
  ⟨fun l _ hL _ => absurd hL (em_none l), fun l _ hL _ => absurd hL (em_none l)⟩
end
