/-! The words of the tables as one list (zW), those of nest mates (zNl). Written by wip/gen/mkbase.py. -/
/-- all words of the tables that stay when classes warm up -/
def zWu : Cond := Cond.selects RJ4 yJ5_ensureCapacityInternal_d00df yJ5_ensureCapacityInternal_d00df
def zW : List Cond := (zWu :: lw_tbl).filter goodWord
theorem zW_up : zWu ∈ zW := List.mem_filter.mpr ⟨List.mem_cons_self, rfl⟩
theorem zW_mem {w : Cond} (i : Nat) (h : lw_tbl[i]? = some w) (hg : goodWord w = true) : w ∈ zW := List.mem_filter.mpr ⟨List.mem_cons_of_mem _ (List.mem_of_getElem? h), hg⟩
theorem zW_tab {w : Cond} (h : w ∈ tables_1) (hg : goodWord w = true) : w ∈ zW := List.mem_filter.mpr ⟨List.mem_cons_of_mem _ (List.mem_append_right _ h), hg⟩
theorem zW_good {w : Cond} (h : w ∈ zW) : (w.onTables && w.keeps) = true ∨ ∃ ty, w = .arrayClass ty := good_of_word (List.mem_filter.mp h).2
/-- the words of nest mates: they stay too, by laws of their own -/
def zisN : Cond → Bool
  | .fieldLinkNest .. => true
  | .methodLinkNest .. => true
  | _ => false
def zNl : List Cond := tables_1.filter zisN
theorem zN_tab {w : Cond} (h : w ∈ tables_1) (hg : zisN w = true) : w ∈ zNl := List.mem_filter.mpr ⟨h, hg⟩
def zEx (U : State) : Prop := ∀ w ∈ zNl, va_Nw w U
theorem zisN_tab {w : Cond} (h : w ∈ zNl) : w.onTables = true := by
  have h2 := (List.mem_filter.mp h).2
  cases w <;> first | rfl | cases h2
theorem zEx.warm {s U : State} (hW : s.WarmedH U.vm) (h : zEx s) : zEx U := by
  intro w hw
  have h2 := (List.mem_filter.mp hw).2
  have h3 := h w hw
  cases w <;> first | exact va_Nw.warmF hW h3 | exact va_Nw.warmM hW h3 | cases h2
theorem zEx.same {u U : State} (hv : u.vm = U.vm) (h : zEx u) : zEx U := fun w hw => va_Nw.same (zisN_tab hw) hv (h w hw)
/-- what the tables say of a method that is called by a virtual call, by a static one -/
def zMV (y : MethodName) (bytes : ByteArray) (maxL : Nat) (ret : Option FieldType) (n : Nat) : Prop :=
  Cond.code y bytes maxL ret ∈ zW ∧ Cond.initialized y.cls ∈ zW ∧ Cond.instanceMethod y ∈ zW ∧ Cond.selects y.cls y y ∈ zW ∧ (y.cls ≠ "java/lang/invoke/MethodHandle" ∧ y.cls ≠ "java/lang/invoke/VarHandle" ∧ (parseMethodDescriptor y.desc).map (fun d => d.parameters.length) = some n)
def zMS (y : MethodName) (bytes : ByteArray) (maxL : Nat) (ret : Option FieldType) (n : Nat) : Prop :=
  Cond.code y bytes maxL ret ∈ zW ∧ Cond.initialized y.cls ∈ zW ∧ Cond.static y ∈ zW ∧ (y.cls ≠ "java/lang/invoke/MethodHandle" ∧ y.cls ≠ "java/lang/invoke/VarHandle" ∧ (parseMethodDescriptor y.desc).map (fun d => d.parameters.length) = some n)
