/-! ===== the words that stay good, in one list for every method; what else is carried ===== -/
def ex5 : List Cond := [.selects "TableChoices$Element" y_Wa_wordsFrom y_Wa_wordsFrom, .selects "TableChoices$Order" y_Wa_wordsFrom y_Wa_wordsFrom, .selects "TableChoices$Sum" y_Wa_wordsFrom y_Wa_wordsFrom, .selects "TableChoices$Tally" y_Wa_wordsFrom y_Wa_wordsFrom, .selects "TableChoices$First" y_Wa_wordsFrom y_Wa_wordsFrom]
def gt : List Cond := (ex5 ++ lw_tbl).filter goodWord
theorem gt_t {w : Cond} (i : Nat) (h : tables_1[i]? = some w) (g : goodWord w = true) : w ∈ gt := List.mem_filter.mpr ⟨List.mem_append_right _ (List.mem_append_right _ (List.mem_of_getElem? h)), g⟩
theorem gt_p {w : Cond} (i : Nat) (h : (k2_sels lw_privs)[i]? = some w) (g : goodWord w = true) : w ∈ gt := List.mem_filter.mpr ⟨List.mem_append_right _ (List.mem_append_left _ (List.mem_of_getElem? h)), g⟩
theorem gt_e {w : Cond} (i : Nat) (h : ex5[i]? = some w) (g : goodWord w = true) : w ∈ gt := List.mem_filter.mpr ⟨List.mem_append_left _ (List.mem_of_getElem? h), g⟩
theorem sel_sub {y : MethodName} {C : String} {s : State} {args : Array Value} {n : Nat} (hy : y.cls ≠ "java/lang/invoke/MethodHandle" ∧ y.cls ≠ "java/lang/invoke/VarHandle")
    (hins : (Cond.instantiable C n).before args s = true) (hpriv : (Cond.privateMethod y).before args s = true) (hinst : (Cond.instanceMethod y).before args s = true) (hsm : (Cond.sameMethod y.cls y.cls y.name y.desc).before args s = true) :
    (Cond.selects C y y).before args s = true := by
  obtain ⟨c, k, hc, hk, -, hniab, -, -⟩ := Cond.instantiable_spec hins
  obtain ⟨cn, ck, r1, hcn, hck, hni, -, -⟩ := Cond.sameMethod_found hsm
  obtain ⟨mk, methM, hnamed, hmethM, -, -⟩ := Cond.instanceMethod_spec hinst
  have hcls : mk.cls = cn := Option.some.inj ((findClass_of_methodNamed hnamed).symm.trans hcn)
  have hfound : s.methodFound? y.cls y.name y.desc = some mk := State.methodFound?_of_named hnamed hy
  have hsel : selectMethod {} s.vm c mk = .method mk := selectMethod_private hmethM (Cond.privateMethod_at hpriv mk methM hnamed hmethM)
  simp only [Cond.before, Cond.holds, Cond.value, hc, hfound, hnamed, hsel, hk, hcls, hck]
  simp [hni]
theorem gt_all {args : Array Value} {s : State} (h : ∀ w ∈ lw_tbl, w.before args s = true) : ∀ w ∈ gt, w.before args s = true := by
  intro w hw
  rcases List.mem_append.mp (List.mem_filter.mp hw).1 with h5 | h5
  · have hp : (Cond.privateMethod y_Wa_wordsFrom).before args s = true := h _ (List.mem_append_right _ (List.mem_of_getElem? (i := 428) (by decide +kernel)))
    have hi : (Cond.instanceMethod y_Wa_wordsFrom).before args s = true := h _ (List.mem_append_right _ (List.mem_of_getElem? (i := 429) (by decide +kernel)))
    have hm : (Cond.sameMethod y_Wa_wordsFrom.cls y_Wa_wordsFrom.cls y_Wa_wordsFrom.name y_Wa_wordsFrom.desc).before args s = true := h _ (List.mem_append_right _ (List.mem_of_getElem? (i := 913) (by decide +kernel)))
    simp only [ex5, List.mem_cons, List.not_mem_nil, or_false] at h5
    rcases h5 with rfl | rfl | rfl | rfl | rfl
    · exact sel_sub (n := 6) (by decide) (h _ (List.mem_append_right _ (List.mem_of_getElem? (i := 273) (by decide +kernel)))) hp hi hm
    · exact sel_sub (n := 7) (by decide) (h _ (List.mem_append_right _ (List.mem_of_getElem? (i := 293) (by decide +kernel)))) hp hi hm
    · exact sel_sub (n := 8) (by decide) (h _ (List.mem_append_right _ (List.mem_of_getElem? (i := 316) (by decide +kernel)))) hp hi hm
    · exact sel_sub (n := 9) (by decide) (h _ (List.mem_append_right _ (List.mem_of_getElem? (i := 339) (by decide +kernel)))) hp hi hm
    · exact sel_sub (n := 8) (by decide) (h _ (List.mem_append_right _ (List.mem_of_getElem? (i := 365) (by decide +kernel)))) hp hi hm
  · exact h w h5
theorem gg {w : Cond} (h : w ∈ gt) : GoodIn gt (w :: gt) := fun v hv => by
  rcases List.mem_cons.mp hv with rfl | hv
  · exact ⟨h, good_of_word (List.mem_filter.mp h).2⟩
  · exact ⟨hv, good_of_word (List.mem_filter.mp hv).2⟩
def isNw : Cond → Bool
  | .methodLinkNest .. => true
  | .castable .. => true
  | .declares .. => true
  | _ => false
theorem nw_tab {w : Cond} (h : isNw w = true) : w.onTables = true := by
  cases w <;> first | rfl | (simp [isNw] at h)
theorem nw_warm {w : Cond} (h : isNw w = true) {s U : State} (hW : s.WarmedH U.vm) (hZ : va_Nw w s) : va_Nw w U := by
  cases w <;> first | exact va_Nw.warmM hW hZ | exact va_Nw.warmC hW hZ | exact va_Nw.warmD hW hZ | (simp [isNw] at h)
def nwl : List Cond := [Cond.methodLinkNest "TableChoices" 9 ⟨"TableChoices$Choices", "<init>", "()V"⟩ "TableChoices", Cond.methodLinkNest "TableChoices" 28 ⟨"TableChoices$Places", "<init>", "()V"⟩ "TableChoices", Cond.methodLinkNest "TableChoices$Constraint" 9 ⟨"TableChoices", "digit", "(II)I"⟩ "TableChoices", Cond.methodLinkNest "TableChoices$Table" 22 ⟨"TableChoices", "digit", "(II)I"⟩ "TableChoices", Cond.methodLinkNest "TableChoices$Machine" 25 ⟨"TableChoices", "isValue", "(I)Z"⟩ "TableChoices", Cond.methodLinkNest "TableChoices$Choices" 27 ⟨"TableChoices", "has", "(II)Z"⟩ "TableChoices", Cond.declares ⟨"TableChoices$Constraint", "keeps", "(LTableChoices$Places;)Z"⟩, Cond.declares ⟨"TableChoices$Walk", "isGoodAtEnd", "(I)Z"⟩, Cond.methodLinkNest "TableChoices$Sum" 18 ⟨"TableChoices", "isIn", "(III)Z"⟩ "TableChoices", Cond.methodLinkNest "TableChoices$Tally" 21 ⟨"TableChoices", "isIn", "(III)Z"⟩ "TableChoices", Cond.methodLinkNest "TableChoices$Places" 42 ⟨"TableChoices", "isIn", "(III)Z"⟩ "TableChoices", Cond.methodLinkNest "TableChoices$Walk" 37 ⟨"TableChoices", "has", "(II)Z"⟩ "TableChoices", Cond.declares ⟨"TableChoices$Walk", "after", "(III)I"⟩, Cond.methodLinkNest "TableChoices$Element" 15 ⟨"TableChoices", "digit", "(II)I"⟩ "TableChoices", Cond.methodLinkNest "TableChoices$Order" 19 ⟨"TableChoices", "digit", "(II)I"⟩ "TableChoices", Cond.methodLinkNest "TableChoices$Machine" 52 ⟨"TableChoices", "has", "(II)Z"⟩ "TableChoices", Cond.methodLinkNest "TableChoices$Machine" 84 ⟨"TableChoices", "isIn", "(III)Z"⟩ "TableChoices", Cond.methodLinkNest "TableChoices$Machine" 88 ⟨"TableChoices", "digit", "(II)I"⟩ "TableChoices", Cond.methodLinkNest "TableChoices$Table" 35 ⟨"TableChoices", "has", "(II)Z"⟩ "TableChoices", Cond.methodLinkNest "TableChoices$Places" 30 ⟨"TableChoices", "digit", "(II)I"⟩ "TableChoices", Cond.declares ⟨"TableChoices$Constraint", "openWords", "(LTableChoices$Places;)I"⟩, Cond.declares ⟨"TableChoices$Constraint", "lay", "([ILTableChoices$Places;)V"⟩, Cond.castable "TableChoices$Table" "TableChoices$Table", Cond.castable "TableChoices$Machine" "TableChoices$Machine", Cond.castable "TableChoices$Element" "TableChoices$Constraint", Cond.castable "TableChoices$First" "TableChoices$Constraint", Cond.castable "TableChoices$Machine" "TableChoices$Constraint", Cond.castable "TableChoices$Order" "TableChoices$Constraint", Cond.castable "TableChoices$Sum" "TableChoices$Constraint", Cond.castable "TableChoices$Table" "TableChoices$Constraint", Cond.castable "TableChoices$Tally" "TableChoices$Constraint"]
def ncl : List (String × String) := [("TableChoices", "TableChoices$Table"), ("TableChoices$Choices", "TableChoices$Table"), ("TableChoices$Places", "TableChoices$Table"), ("TableChoicesModel", "TableChoices$Table"), ("TableChoices$Machine", "TableChoices$Table"), ("TableChoices$Element", "TableChoices$Table"), ("TableChoices$Order", "TableChoices$Table"), ("TableChoices$Sum", "TableChoices$Table"), ("TableChoices$Tally", "TableChoices$Table"), ("TableChoices$First", "TableChoices$Table"), ("TableChoices", "TableChoices$Machine"), ("TableChoices$Choices", "TableChoices$Machine"), ("TableChoices$Places", "TableChoices$Machine"), ("TableChoicesModel", "TableChoices$Machine"), ("TableChoices$Table", "TableChoices$Machine"), ("TableChoices$Element", "TableChoices$Machine"), ("TableChoices$Order", "TableChoices$Machine"), ("TableChoices$Sum", "TableChoices$Machine"), ("TableChoices$Tally", "TableChoices$Machine"), ("TableChoices$First", "TableChoices$Machine")]
theorem nwl_ok : ∀ w ∈ nwl, isNw w = true := by decide +kernel
def kx (U : State) : Prop := (∀ w ∈ nwl, va_Nw w U) ∧ (∀ q ∈ ncl, va_Nc q.1 q.2 U) ∧ va_AO "TableChoices$Choices" U ∧ va_AO "TableChoices$Constraint" U
theorem kx.warm {s U : State} (hW : s.WarmedH U.vm) (h : kx s) : kx U :=
  ⟨fun w hw => nw_warm (nwl_ok w hw) hW (h.1 w hw), fun q hq => (h.2.1 q hq).moved hW.alike, h.2.2.1.moved hW.alike, h.2.2.2.moved hW.alike⟩
theorem kx.same {s U : State} (e : s.vm = U.vm) (h : kx s) : kx U :=
  ⟨fun w hw => (h.1 w hw).same (nw_tab (nwl_ok w hw)) e, fun q hq => (h.2.1 q hq).moved (e ▸ Vm.Alike.refl s.vm), h.2.2.1.moved (e ▸ Vm.Alike.refl s.vm), h.2.2.2.moved (e ▸ Vm.Alike.refl s.vm)⟩
def R_TC : String := "TableChoices"
def F_TC : u_T := fun k => match k with
  | 0 => ("TableChoices", "now", "LTableChoices$Choices;", true)
  | 1 => ("TableChoices", "marked", "[LTableChoices$Choices;", true)
  | 2 => ("TableChoices", "constraints", "[LTableChoices$Constraint;", true)
  | 3 => ("TableChoices", "places", "LTableChoices$Places;", true)
  | 4 => ("TableChoices", "chosen", "[I", true)
  | 5 => ("TableChoices", "names", "I", false)
  | 6 => ("TableChoices", "constraintCount", "I", false)
  | 7 => ("TableChoices", "markCount", "I", false)
  | _ => ("TableChoices", "latestRounds", "I", false)
def t_TC : Nat → FieldType := fun k => match k with
  | 0 => .object "TableChoices$Choices"
  | 1 => .array (.object "TableChoices$Choices")
  | 2 => .array (.object "TableChoices$Constraint")
  | 3 => .object "TableChoices$Places"
  | 4 => .array (.int)
  | 5 => .int
  | 6 => .int
  | 7 => .int
  | _ => .int
theorem n_TC : ∀ a, a < 9 → ∀ b, b < 9 → a ≠ b → (F_TC a).2.1 ≠ (F_TC b).2.1 := by decide +kernel
theorem k_TC : ∀ k, k < 9 → parseFieldDescriptor (F_TC k).2.2.1 = some (t_TC k) := by decide +kernel
theorem i_TC : ∀ w ∈ u_ws R_TC F_TC 9, w ∈ gt := by
  intro w hw
  obtain ⟨k, hk, rfl⟩ := List.mem_map.mp hw
  have hk := List.mem_range.mp hk
  match k, hk with
  | 0, _ => exact gt_t 96 (by decide +kernel) (by decide +kernel)
  | 1, _ => exact gt_t 98 (by decide +kernel) (by decide +kernel)
  | 2, _ => exact gt_t 100 (by decide +kernel) (by decide +kernel)
  | 3, _ => exact gt_t 102 (by decide +kernel) (by decide +kernel)
  | 4, _ => exact gt_t 104 (by decide +kernel) (by decide +kernel)
  | 5, _ => exact gt_t 106 (by decide +kernel) (by decide +kernel)
  | 6, _ => exact gt_t 108 (by decide +kernel) (by decide +kernel)
  | 7, _ => exact gt_t 110 (by decide +kernel) (by decide +kernel)
  | 8, _ => exact gt_t 112 (by decide +kernel) (by decide +kernel)
  | k + 9, hk => exact absurd hk (by omega)
def R_Ch : String := "TableChoices$Choices"
def F_Ch : u_T := fun k => match k with
  | 0 => ("TableChoices$Choices", "domains", "[I", true)
  | 1 => ("TableChoices$Choices", "reasons", "[I", true)
  | _ => ("TableChoices$Choices", "rounds", "[I", true)
def t_Ch : Nat → FieldType := fun k => match k with
  | 0 => .array (.int)
  | 1 => .array (.int)
  | _ => .array (.int)
theorem n_Ch : ∀ a, a < 3 → ∀ b, b < 3 → a ≠ b → (F_Ch a).2.1 ≠ (F_Ch b).2.1 := by decide +kernel
theorem k_Ch : ∀ k, k < 3 → parseFieldDescriptor (F_Ch k).2.2.1 = some (t_Ch k) := by decide +kernel
theorem i_Ch : ∀ w ∈ u_ws R_Ch F_Ch 3, w ∈ gt := by
  intro w hw
  obtain ⟨k, hk, rfl⟩ := List.mem_map.mp hw
  have hk := List.mem_range.mp hk
  match k, hk with
  | 0, _ => exact gt_t 37 (by decide +kernel) (by decide +kernel)
  | 1, _ => exact gt_t 39 (by decide +kernel) (by decide +kernel)
  | 2, _ => exact gt_t 41 (by decide +kernel) (by decide +kernel)
  | k + 3, hk => exact absurd hk (by omega)
def R_Pl : String := "TableChoices$Places"
def F_Pl : u_T := fun k => match k with
  | 0 => ("TableChoices$Places", "open", "[I", true)
  | 1 => ("TableChoices$Places", "kept", "[I", true)
  | 2 => ("TableChoices$Places", "ahead", "[I", true)
  | 3 => ("TableChoices$Places", "behind", "[I", true)
  | 4 => ("TableChoices$Places", "words", "[I", true)
  | 5 => ("TableChoices$Places", "knownSince", "[I", true)
  | _ => ("TableChoices$Places", "time", "I", false)
def t_Pl : Nat → FieldType := fun k => match k with
  | 0 => .array (.int)
  | 1 => .array (.int)
  | 2 => .array (.int)
  | 3 => .array (.int)
  | 4 => .array (.int)
  | 5 => .array (.int)
  | _ => .int
theorem n_Pl : ∀ a, a < 7 → ∀ b, b < 7 → a ≠ b → (F_Pl a).2.1 ≠ (F_Pl b).2.1 := by decide +kernel
theorem k_Pl : ∀ k, k < 7 → parseFieldDescriptor (F_Pl k).2.2.1 = some (t_Pl k) := by decide +kernel
theorem i_Pl : ∀ w ∈ u_ws R_Pl F_Pl 7, w ∈ gt := by
  intro w hw
  obtain ⟨k, hk, rfl⟩ := List.mem_map.mp hw
  have hk := List.mem_range.mp hk
  match k, hk with
  | 0, _ => exact gt_t 72 (by decide +kernel) (by decide +kernel)
  | 1, _ => exact gt_t 74 (by decide +kernel) (by decide +kernel)
  | 2, _ => exact gt_t 76 (by decide +kernel) (by decide +kernel)
  | 3, _ => exact gt_t 78 (by decide +kernel) (by decide +kernel)
  | 4, _ => exact gt_t 80 (by decide +kernel) (by decide +kernel)
  | 5, _ => exact gt_t 82 (by decide +kernel) (by decide +kernel)
  | 6, _ => exact gt_t 84 (by decide +kernel) (by decide +kernel)
  | k + 7, hk => exact absurd hk (by omega)
def R_Ta : String := "TableChoices$Table"
def F_Ta : u_T := fun k => match k with
  | 0 => ("TableChoices$Constraint", "kind", "I", true)
  | 1 => ("TableChoices$Constraint", "many", "I", true)
  | 2 => ("TableChoices$Constraint", "row", "I", true)
  | 3 => ("TableChoices$Constraint", "nameSet", "I", true)
  | 4 => ("TableChoices$Constraint", "highestName", "I", true)
  | 5 => ("TableChoices$Constraint", "highestPlace", "I", true)
  | 6 => ("TableChoices$Table", "fitting", "[I", true)
  | _ => ("TableChoices$Table", "tuples", "I", false)
def t_Ta : Nat → FieldType := fun k => match k with
  | 0 => .int
  | 1 => .int
  | 2 => .int
  | 3 => .int
  | 4 => .int
  | 5 => .int
  | 6 => .array (.int)
  | _ => .int
theorem n_Ta : ∀ a, a < 8 → ∀ b, b < 8 → a ≠ b → (F_Ta a).2.1 ≠ (F_Ta b).2.1 := by decide +kernel
theorem k_Ta : ∀ k, k < 8 → parseFieldDescriptor (F_Ta k).2.2.1 = some (t_Ta k) := by decide +kernel
theorem i_Ta : ∀ w ∈ u_ws R_Ta F_Ta 8, w ∈ gt := by
  intro w hw
  obtain ⟨k, hk, rfl⟩ := List.mem_map.mp hw
  have hk := List.mem_range.mp hk
  match k, hk with
  | 0, _ => exact gt_t 191 (by decide +kernel) (by decide +kernel)
  | 1, _ => exact gt_t 193 (by decide +kernel) (by decide +kernel)
  | 2, _ => exact gt_t 195 (by decide +kernel) (by decide +kernel)
  | 3, _ => exact gt_t 197 (by decide +kernel) (by decide +kernel)
  | 4, _ => exact gt_t 199 (by decide +kernel) (by decide +kernel)
  | 5, _ => exact gt_t 201 (by decide +kernel) (by decide +kernel)
  | 6, _ => exact gt_t 187 (by decide +kernel) (by decide +kernel)
  | 7, _ => exact gt_t 189 (by decide +kernel) (by decide +kernel)
  | k + 8, hk => exact absurd hk (by omega)
def R_Ma : String := "TableChoices$Machine"
def F_Ma : u_T := fun k => match k with
  | 0 => ("TableChoices$Constraint", "kind", "I", true)
  | 1 => ("TableChoices$Constraint", "many", "I", true)
  | 2 => ("TableChoices$Constraint", "row", "I", true)
  | 3 => ("TableChoices$Constraint", "nameSet", "I", true)
  | 4 => ("TableChoices$Constraint", "highestName", "I", true)
  | 5 => ("TableChoices$Constraint", "highestPlace", "I", true)
  | 6 => ("TableChoices$Machine", "ends", "I", true)
  | 7 => ("TableChoices$Machine", "most", "I", true)
  | 8 => ("TableChoices$Machine", "steps", "[I", true)
  | _ => ("TableChoices$Machine", "starts", "[I", true)
def t_Ma : Nat → FieldType := fun k => match k with
  | 0 => .int
  | 1 => .int
  | 2 => .int
  | 3 => .int
  | 4 => .int
  | 5 => .int
  | 6 => .int
  | 7 => .int
  | 8 => .array (.int)
  | _ => .array (.int)
theorem n_Ma : ∀ a, a < 10 → ∀ b, b < 10 → a ≠ b → (F_Ma a).2.1 ≠ (F_Ma b).2.1 := by decide +kernel
theorem k_Ma : ∀ k, k < 10 → parseFieldDescriptor (F_Ma k).2.2.1 = some (t_Ma k) := by decide +kernel
theorem i_Ma : ∀ w ∈ u_ws R_Ma F_Ma 10, w ∈ gt := by
  intro w hw
  obtain ⟨k, hk, rfl⟩ := List.mem_map.mp hw
  have hk := List.mem_range.mp hk
  match k, hk with
  | 0, _ => exact gt_t 249 (by decide +kernel) (by decide +kernel)
  | 1, _ => exact gt_t 250 (by decide +kernel) (by decide +kernel)
  | 2, _ => exact gt_t 251 (by decide +kernel) (by decide +kernel)
  | 3, _ => exact gt_t 252 (by decide +kernel) (by decide +kernel)
  | 4, _ => exact gt_t 253 (by decide +kernel) (by decide +kernel)
  | 5, _ => exact gt_t 254 (by decide +kernel) (by decide +kernel)
  | 6, _ => exact gt_t 241 (by decide +kernel) (by decide +kernel)
  | 7, _ => exact gt_t 243 (by decide +kernel) (by decide +kernel)
  | 8, _ => exact gt_t 245 (by decide +kernel) (by decide +kernel)
  | 9, _ => exact gt_t 247 (by decide +kernel) (by decide +kernel)
  | k + 10, hk => exact absurd hk (by omega)
def R_El : String := "TableChoices$Element"
def F_El : u_T := fun k => match k with
  | 0 => ("TableChoices$Constraint", "kind", "I", true)
  | 1 => ("TableChoices$Constraint", "many", "I", true)
  | 2 => ("TableChoices$Constraint", "row", "I", true)
  | 3 => ("TableChoices$Constraint", "nameSet", "I", true)
  | 4 => ("TableChoices$Constraint", "highestName", "I", true)
  | _ => ("TableChoices$Constraint", "highestPlace", "I", true)
def t_El : Nat → FieldType := fun k => match k with
  | 0 => .int
  | 1 => .int
  | 2 => .int
  | 3 => .int
  | 4 => .int
  | _ => .int
theorem n_El : ∀ a, a < 6 → ∀ b, b < 6 → a ≠ b → (F_El a).2.1 ≠ (F_El b).2.1 := by decide +kernel
theorem k_El : ∀ k, k < 6 → parseFieldDescriptor (F_El k).2.2.1 = some (t_El k) := by decide +kernel
theorem i_El : ∀ w ∈ u_ws R_El F_El 6, w ∈ gt := by
  intro w hw
  obtain ⟨k, hk, rfl⟩ := List.mem_map.mp hw
  have hk := List.mem_range.mp hk
  match k, hk with
  | 0, _ => exact gt_t 281 (by decide +kernel) (by decide +kernel)
  | 1, _ => exact gt_t 282 (by decide +kernel) (by decide +kernel)
  | 2, _ => exact gt_t 283 (by decide +kernel) (by decide +kernel)
  | 3, _ => exact gt_t 284 (by decide +kernel) (by decide +kernel)
  | 4, _ => exact gt_t 285 (by decide +kernel) (by decide +kernel)
  | 5, _ => exact gt_t 286 (by decide +kernel) (by decide +kernel)
  | k + 6, hk => exact absurd hk (by omega)
def R_Or : String := "TableChoices$Order"
def F_Or : u_T := fun k => match k with
  | 0 => ("TableChoices$Constraint", "kind", "I", true)
  | 1 => ("TableChoices$Constraint", "many", "I", true)
  | 2 => ("TableChoices$Constraint", "row", "I", true)
  | 3 => ("TableChoices$Constraint", "nameSet", "I", true)
  | 4 => ("TableChoices$Constraint", "highestName", "I", true)
  | 5 => ("TableChoices$Constraint", "highestPlace", "I", true)
  | _ => ("TableChoices$Order", "strict", "Z", true)
def t_Or : Nat → FieldType := fun k => match k with
  | 0 => .int
  | 1 => .int
  | 2 => .int
  | 3 => .int
  | 4 => .int
  | 5 => .int
  | _ => .boolean
theorem n_Or : ∀ a, a < 7 → ∀ b, b < 7 → a ≠ b → (F_Or a).2.1 ≠ (F_Or b).2.1 := by decide +kernel
theorem k_Or : ∀ k, k < 7 → parseFieldDescriptor (F_Or k).2.2.1 = some (t_Or k) := by decide +kernel
theorem i_Or : ∀ w ∈ u_ws R_Or F_Or 7, w ∈ gt := by
  intro w hw
  obtain ⟨k, hk, rfl⟩ := List.mem_map.mp hw
  have hk := List.mem_range.mp hk
  match k, hk with
  | 0, _ => exact gt_t 301 (by decide +kernel) (by decide +kernel)
  | 1, _ => exact gt_t 302 (by decide +kernel) (by decide +kernel)
  | 2, _ => exact gt_t 303 (by decide +kernel) (by decide +kernel)
  | 3, _ => exact gt_t 304 (by decide +kernel) (by decide +kernel)
  | 4, _ => exact gt_t 305 (by decide +kernel) (by decide +kernel)
  | 5, _ => exact gt_t 306 (by decide +kernel) (by decide +kernel)
  | 6, _ => exact gt_t 299 (by decide +kernel) (by decide +kernel)
  | k + 7, hk => exact absurd hk (by omega)
def R_Su : String := "TableChoices$Sum"
def F_Su : u_T := fun k => match k with
  | 0 => ("TableChoices$Constraint", "kind", "I", true)
  | 1 => ("TableChoices$Constraint", "many", "I", true)
  | 2 => ("TableChoices$Constraint", "row", "I", true)
  | 3 => ("TableChoices$Constraint", "nameSet", "I", true)
  | 4 => ("TableChoices$Constraint", "highestName", "I", true)
  | 5 => ("TableChoices$Constraint", "highestPlace", "I", true)
  | 6 => ("TableChoices$Sum", "low", "I", true)
  | _ => ("TableChoices$Sum", "high", "I", true)
def t_Su : Nat → FieldType := fun k => match k with
  | 0 => .int
  | 1 => .int
  | 2 => .int
  | 3 => .int
  | 4 => .int
  | 5 => .int
  | 6 => .int
  | _ => .int
theorem n_Su : ∀ a, a < 8 → ∀ b, b < 8 → a ≠ b → (F_Su a).2.1 ≠ (F_Su b).2.1 := by decide +kernel
theorem k_Su : ∀ k, k < 8 → parseFieldDescriptor (F_Su k).2.2.1 = some (t_Su k) := by decide +kernel
theorem i_Su : ∀ w ∈ u_ws R_Su F_Su 8, w ∈ gt := by
  intro w hw
  obtain ⟨k, hk, rfl⟩ := List.mem_map.mp hw
  have hk := List.mem_range.mp hk
  match k, hk with
  | 0, _ => exact gt_t 327 (by decide +kernel) (by decide +kernel)
  | 1, _ => exact gt_t 328 (by decide +kernel) (by decide +kernel)
  | 2, _ => exact gt_t 329 (by decide +kernel) (by decide +kernel)
  | 3, _ => exact gt_t 330 (by decide +kernel) (by decide +kernel)
  | 4, _ => exact gt_t 331 (by decide +kernel) (by decide +kernel)
  | 5, _ => exact gt_t 332 (by decide +kernel) (by decide +kernel)
  | 6, _ => exact gt_t 323 (by decide +kernel) (by decide +kernel)
  | 7, _ => exact gt_t 325 (by decide +kernel) (by decide +kernel)
  | k + 8, hk => exact absurd hk (by omega)
def R_Ty : String := "TableChoices$Tally"
def F_Ty : u_T := fun k => match k with
  | 0 => ("TableChoices$Constraint", "kind", "I", true)
  | 1 => ("TableChoices$Constraint", "many", "I", true)
  | 2 => ("TableChoices$Constraint", "row", "I", true)
  | 3 => ("TableChoices$Constraint", "nameSet", "I", true)
  | 4 => ("TableChoices$Constraint", "highestName", "I", true)
  | 5 => ("TableChoices$Constraint", "highestPlace", "I", true)
  | 6 => ("TableChoices$Tally", "counted", "I", true)
  | 7 => ("TableChoices$Tally", "low", "I", true)
  | _ => ("TableChoices$Tally", "high", "I", true)
def t_Ty : Nat → FieldType := fun k => match k with
  | 0 => .int
  | 1 => .int
  | 2 => .int
  | 3 => .int
  | 4 => .int
  | 5 => .int
  | 6 => .int
  | 7 => .int
  | _ => .int
theorem n_Ty : ∀ a, a < 9 → ∀ b, b < 9 → a ≠ b → (F_Ty a).2.1 ≠ (F_Ty b).2.1 := by decide +kernel
theorem k_Ty : ∀ k, k < 9 → parseFieldDescriptor (F_Ty k).2.2.1 = some (t_Ty k) := by decide +kernel
theorem i_Ty : ∀ w ∈ u_ws R_Ty F_Ty 9, w ∈ gt := by
  intro w hw
  obtain ⟨k, hk, rfl⟩ := List.mem_map.mp hw
  have hk := List.mem_range.mp hk
  match k, hk with
  | 0, _ => exact gt_t 353 (by decide +kernel) (by decide +kernel)
  | 1, _ => exact gt_t 354 (by decide +kernel) (by decide +kernel)
  | 2, _ => exact gt_t 355 (by decide +kernel) (by decide +kernel)
  | 3, _ => exact gt_t 356 (by decide +kernel) (by decide +kernel)
  | 4, _ => exact gt_t 357 (by decide +kernel) (by decide +kernel)
  | 5, _ => exact gt_t 358 (by decide +kernel) (by decide +kernel)
  | 6, _ => exact gt_t 347 (by decide +kernel) (by decide +kernel)
  | 7, _ => exact gt_t 349 (by decide +kernel) (by decide +kernel)
  | 8, _ => exact gt_t 351 (by decide +kernel) (by decide +kernel)
  | k + 9, hk => exact absurd hk (by omega)
def R_Fi : String := "TableChoices$First"
def F_Fi : u_T := fun k => match k with
  | 0 => ("TableChoices$Constraint", "kind", "I", true)
  | 1 => ("TableChoices$Constraint", "many", "I", true)
  | 2 => ("TableChoices$Constraint", "row", "I", true)
  | 3 => ("TableChoices$Constraint", "nameSet", "I", true)
  | 4 => ("TableChoices$Constraint", "highestName", "I", true)
  | 5 => ("TableChoices$Constraint", "highestPlace", "I", true)
  | 6 => ("TableChoices$First", "a", "I", true)
  | _ => ("TableChoices$First", "b", "I", true)
def t_Fi : Nat → FieldType := fun k => match k with
  | 0 => .int
  | 1 => .int
  | 2 => .int
  | 3 => .int
  | 4 => .int
  | 5 => .int
  | 6 => .int
  | _ => .int
theorem n_Fi : ∀ a, a < 8 → ∀ b, b < 8 → a ≠ b → (F_Fi a).2.1 ≠ (F_Fi b).2.1 := by decide +kernel
theorem k_Fi : ∀ k, k < 8 → parseFieldDescriptor (F_Fi k).2.2.1 = some (t_Fi k) := by decide +kernel
theorem i_Fi : ∀ w ∈ u_ws R_Fi F_Fi 8, w ∈ gt := by
  intro w hw
  obtain ⟨k, hk, rfl⟩ := List.mem_map.mp hw
  have hk := List.mem_range.mp hk
  match k, hk with
  | 0, _ => exact gt_t 376 (by decide +kernel) (by decide +kernel)
  | 1, _ => exact gt_t 377 (by decide +kernel) (by decide +kernel)
  | 2, _ => exact gt_t 378 (by decide +kernel) (by decide +kernel)
  | 3, _ => exact gt_t 379 (by decide +kernel) (by decide +kernel)
  | 4, _ => exact gt_t 380 (by decide +kernel) (by decide +kernel)
  | 5, _ => exact gt_t 381 (by decide +kernel) (by decide +kernel)
  | 6, _ => exact gt_t 372 (by decide +kernel) (by decide +kernel)
  | 7, _ => exact gt_t 374 (by decide +kernel) (by decide +kernel)
  | k + 8, hk => exact absurd hk (by omega)
def R_M : String := "TableChoicesModel"
def F_M : u_T := fun k => match k with
  | 0 => ("TableChoicesModel", "names", "I", false)
  | 1 => ("TableChoicesModel", "domain", "[I", true)
  | 2 => ("TableChoicesModel", "reason", "[I", true)
  | 3 => ("TableChoicesModel", "round", "[I", true)
  | 4 => ("TableChoicesModel", "marks", "I", false)
  | 5 => ("TableChoicesModel", "keptDomain", "[I", true)
  | 6 => ("TableChoicesModel", "keptReason", "[I", true)
  | 7 => ("TableChoicesModel", "keptRound", "[I", true)
  | 8 => ("TableChoicesModel", "rounds", "I", false)
  | 9 => ("TableChoicesModel", "constraints", "I", false)
  | 10 => ("TableChoicesModel", "kind", "[I", true)
  | 11 => ("TableChoicesModel", "wide", "[I", true)
  | 12 => ("TableChoicesModel", "rowCode", "[I", true)
  | 13 => ("TableChoicesModel", "row", "[I", true)
  | 14 => ("TableChoicesModel", "low", "[I", true)
  | 15 => ("TableChoicesModel", "high", "[I", true)
  | 16 => ("TableChoicesModel", "which", "[I", true)
  | 17 => ("TableChoicesModel", "many", "[I", true)
  | 18 => ("TableChoicesModel", "tuples", "[I", true)
  | 19 => ("TableChoicesModel", "stepFrom", "[I", true)
  | 20 => ("TableChoicesModel", "stepValue", "[I", true)
  | 21 => ("TableChoicesModel", "stepTo", "[I", true)
  | 22 => ("TableChoicesModel", "stepCost", "[I", true)
  | 23 => ("TableChoicesModel", "word", "[I", true)
  | 24 => ("TableChoicesModel", "cost", "[I", true)
  | 25 => ("TableChoicesModel", "after", "[I", true)
  | 26 => ("TableChoicesModel", "found", "[I", true)
  | _ => ("TableChoicesModel", "chosen", "[I", true)
def t_M : Nat → FieldType := fun k => match k with
  | 0 => .int
  | 1 => .array (.int)
  | 2 => .array (.int)
  | 3 => .array (.int)
  | 4 => .int
  | 5 => .array (.int)
  | 6 => .array (.int)
  | 7 => .array (.int)
  | 8 => .int
  | 9 => .int
  | 10 => .array (.int)
  | 11 => .array (.int)
  | 12 => .array (.int)
  | 13 => .array (.int)
  | 14 => .array (.int)
  | 15 => .array (.int)
  | 16 => .array (.int)
  | 17 => .array (.int)
  | 18 => .array (.int)
  | 19 => .array (.int)
  | 20 => .array (.int)
  | 21 => .array (.int)
  | 22 => .array (.int)
  | 23 => .array (.int)
  | 24 => .array (.int)
  | 25 => .array (.int)
  | 26 => .array (.int)
  | _ => .array (.int)
theorem n_M : ∀ a, a < 28 → ∀ b, b < 28 → a ≠ b → (F_M a).2.1 ≠ (F_M b).2.1 := by decide +kernel
theorem k_M : ∀ k, k < 28 → parseFieldDescriptor (F_M k).2.2.1 = some (t_M k) := by decide +kernel
theorem i_M : ∀ w ∈ u_ws R_M F_M 28, w ∈ gt := by
  intro w hw
  obtain ⟨k, hk, rfl⟩ := List.mem_map.mp hw
  have hk := List.mem_range.mp hk
  match k, hk with
  | 0, _ => exact gt_t 691 (by decide +kernel) (by decide +kernel)
  | 1, _ => exact gt_t 693 (by decide +kernel) (by decide +kernel)
  | 2, _ => exact gt_t 695 (by decide +kernel) (by decide +kernel)
  | 3, _ => exact gt_t 697 (by decide +kernel) (by decide +kernel)
  | 4, _ => exact gt_t 699 (by decide +kernel) (by decide +kernel)
  | 5, _ => exact gt_t 701 (by decide +kernel) (by decide +kernel)
  | 6, _ => exact gt_t 703 (by decide +kernel) (by decide +kernel)
  | 7, _ => exact gt_t 705 (by decide +kernel) (by decide +kernel)
  | 8, _ => exact gt_t 707 (by decide +kernel) (by decide +kernel)
  | 9, _ => exact gt_t 709 (by decide +kernel) (by decide +kernel)
  | 10, _ => exact gt_t 711 (by decide +kernel) (by decide +kernel)
  | 11, _ => exact gt_t 713 (by decide +kernel) (by decide +kernel)
  | 12, _ => exact gt_t 715 (by decide +kernel) (by decide +kernel)
  | 13, _ => exact gt_t 717 (by decide +kernel) (by decide +kernel)
  | 14, _ => exact gt_t 719 (by decide +kernel) (by decide +kernel)
  | 15, _ => exact gt_t 721 (by decide +kernel) (by decide +kernel)
  | 16, _ => exact gt_t 723 (by decide +kernel) (by decide +kernel)
  | 17, _ => exact gt_t 725 (by decide +kernel) (by decide +kernel)
  | 18, _ => exact gt_t 727 (by decide +kernel) (by decide +kernel)
  | 19, _ => exact gt_t 729 (by decide +kernel) (by decide +kernel)
  | 20, _ => exact gt_t 731 (by decide +kernel) (by decide +kernel)
  | 21, _ => exact gt_t 733 (by decide +kernel) (by decide +kernel)
  | 22, _ => exact gt_t 735 (by decide +kernel) (by decide +kernel)
  | 23, _ => exact gt_t 737 (by decide +kernel) (by decide +kernel)
  | 24, _ => exact gt_t 739 (by decide +kernel) (by decide +kernel)
  | 25, _ => exact gt_t 741 (by decide +kernel) (by decide +kernel)
  | 26, _ => exact gt_t 743 (by decide +kernel) (by decide +kernel)
  | 27, _ => exact gt_t 745 (by decide +kernel) (by decide +kernel)
  | k + 28, hk => exact absurd hk (by omega)
abbrev cls : List vw_C := [(R_TC, F_TC, 9), (R_Ch, F_Ch, 3), (R_Pl, F_Pl, 7), (R_Ta, F_Ta, 8), (R_Ma, F_Ma, 10), (R_El, F_El, 6), (R_Or, F_Or, 7), (R_Su, F_Su, 8), (R_Ty, F_Ty, 9), (R_Fi, F_Fi, 8), (R_M, F_M, 28)]
def KK (D : va_G) (cI : ClassId) (tys : List (ClassId × FieldType)) (U : State) : Prop := va_K D cls ((cI, .int) :: tys) U ∧ kx U ∧ U.vm.findClass "[I" = some cI
theorem KK.warm {D : va_G} {cI : ClassId} {tys : List (ClassId × FieldType)} {s U : State} (hW : s.WarmedH U.vm) (h : KK D cI tys s) : KK D cI tys U :=
  ⟨h.1.moved hW.alike, h.2.1.warm hW, by rw [Vm.Alike.findClass hW.alike]; exact h.2.2⟩
theorem KK.same {D : va_G} {cI : ClassId} {tys : List (ClassId × FieldType)} {s U : State} (e : s.vm = U.vm) (h : KK D cI tys s) : KK D cI tys U :=
  ⟨h.1.moved (e ▸ Vm.Alike.refl s.vm), h.2.1.same e, e ▸ h.2.2⟩
theorem KK.sub {D : va_G} {cI : ClassId} {tys tys' : List (ClassId × FieldType)} {s : State} (h : KK D cI tys s) (is : List Nat) (hs : is.filterMap (fun i => tys[i]?) = tys') : KK D cI tys' s := by
  refine ⟨⟨h.1.1, fun k q hk => ?_⟩, h.2.1, h.2.2⟩
  cases k with
  | zero => exact h.1.2 0 q hk
  | succ k =>
    subst hs
    obtain ⟨i, -, hi⟩ := List.mem_filterMap.mp (List.mem_of_getElem? (show (is.filterMap (fun i => tys[i]?))[k]? = some q from hk))
    exact h.1.2 (i + 1) q hi
/-- a contract's start: the cells ws, the tables -/
def pre (D : va_G) (cI : ClassId) (tys : List (ClassId × FieldType)) (sz : Nat) (ws : va_W) (as : List Value) : Array Value → State → Prop := va_Pc as (fun U => U.heap.size = sz ∧ va_P D cls ws U.heap ∧ va_D (fun _ => True) ws ∧ KK D cI tys U)
theorem pre_blind {D : va_G} {cI : ClassId} {tys : List (ClassId × FieldType)} {sz : Nat} {ws : va_W} {as : List Value} : FrameBlind (pre D cI tys sz ws as) := by
  intro a U g mk q
  obtain ⟨q0, q1, qP, qD, qK⟩ := q
  exact ⟨q0, q1, qP, qD, KK.same (s := U) (U := U.calling g mk a) rfl qK⟩
def bk {S : Type} (D : va_G) (ws : va_W) (sz : Nat) (wn : S → va_W) : S → State → Prop := fun u t => va_P D cls (wn u) t.heap ∧ va_D (va_A ws sz) (wn u)
def pstI {S : Type} (D : va_G) (ws : va_W) (sz : Nat) (post : Int32 → S → Prop) (wn : S → va_W) : Array Value → State → Outcome → State → Prop := va_Qi post (bk D ws sz wn) (va_A ws sz)
def pstV {S : Type} (D : va_G) (ws : va_W) (sz : Nat) (post : S → Prop) (wn : S → va_W) : Array Value → State → Outcome → State → Prop := va_Qv post (bk D ws sz wn) (va_A ws sz)
def pstQ {S : Type} (D : va_G) (ws : va_W) (sz : Nat) (post : Option Nat → S → Prop) (wn : S → va_W) : Array Value → State → Outcome → State → Prop := va_Qq post (bk D ws sz wn) (va_A ws sz)
/-- contracts: an int or boolean, nothing, a reference -/
abbrev MetI (l : Launch) (y : MethodName) (cc : ByteArray) (n : Nat) (ret : Option FieldType) (rm : Room) (D : va_G) (cI : ClassId) (tys : List (ClassId × FieldType)) (sz : Nat) (ws : va_W) (as : List Value) {S : Type} (post : Int32 → S → Prop) (wn : S → va_W) : Prop := Met l y (.code y cc n ret :: gt) rm (pre D cI tys sz ws as) (pstI D ws sz post wn) rm.cells rm.slots (va_A ws sz)
abbrev MetV (l : Launch) (y : MethodName) (cc : ByteArray) (n : Nat) (rm : Room) (D : va_G) (cI : ClassId) (tys : List (ClassId × FieldType)) (sz : Nat) (ws : va_W) (as : List Value) {S : Type} (post : S → Prop) (wn : S → va_W) : Prop := Met l y (.code y cc n none :: gt) rm (pre D cI tys sz ws as) (pstV D ws sz post wn) rm.cells rm.slots (va_A ws sz)
abbrev MetQ (l : Launch) (y : MethodName) (cc : ByteArray) (n : Nat) (ret : Option FieldType) (rm : Room) (D : va_G) (cI : ClassId) (tys : List (ClassId × FieldType)) (sz : Nat) (ws : va_W) (as : List Value) {S : Type} (post : Option Nat → S → Prop) (wn : S → va_W) : Prop := Met l y (.code y cc n ret :: gt) rm (pre D cI tys sz ws as) (pstQ D ws sz post wn) rm.cells rm.slots (va_A ws sz)
theorem enter {l : Launch} {y : MethodName} {cc : ByteArray} {n : Nat} {ret : Option FieldType} {rm : Room} {D : va_G} {cI : ClassId} {tys : List (ClassId × FieldType)} {sz : Nat} {ws : va_W} {as : List Value} {Qc : Array Value → State → Outcome → State → Prop} {mc ms : Nat} (hy : plainName y.cls = true) (hn : (lg_sl as).length ≤ n)
    (body : ∀ (p : Program) (e : Env) (s : State) (m : MethodId) (below : List Frame) (meth : Method) (c : Code) (A : Nat → Prop) (ls : Array Slot), CallFix p m c cc n s as.toArray gt y.cls → meth.sig.returnType = ret → meth.locks = false → meth.name = y.name → KK D cI tys s → s.heap.size = sz → (∀ q, s.heap.size ≤ q → A q) → va_A ws sz = A → va_P D cls ws s.heap → va_D A ws → va_S A s.heap s.heap [] → lv_has ls n (lv_args 0 as) → W p l e rm s m as.toArray below meth c s.heap [] 0 0 (MQ below Qc as.toArray s mc ms A) (F0 m 0 ls [])) :
    Met l y (.code y cc n ret :: gt) rm (pre D cI tys sz ws as) Qc mc ms (va_A ws sz) := by
  refine Met.ofW (cc := cc) (maxL := n) (ret := ret) hy rfl ?_
  intro p e s m args below meth c s₁ B hml hv
  obtain ⟨rfl, hsz, hP, hD0, hK⟩ := hv
  have hts := atoms_spec (ws := Cond.code y cc n ret :: gt) B.pre
  have hl := lv_entry as (n := n) hn
  rw [lg_entry_eq]
  exact body p e s m below meth c (va_A ws sz) _ ⟨B.exec, B.bytes, hml, findClass_of_methodNamed B.named, fun w h => hts w (List.mem_cons_of_mem _ h)⟩ B.returns B.notSynchronized (name_of_methodNamed B.named B.method).1 hK hsz (fun q h => Or.inr (hsz ▸ h)) rfl hP (hD0.self (sz := sz)) va_S.rf hl
section RET
variable {p : Program} {l : Launch} {e : Env} {R : Room} {s : State} {m : MethodId} {args : Array Value} {below : List Frame} {meth : Method} {c : Code} {H : Heap} {locs : List Loc} {cells slots mc ms : Nat} {cc : ByteArray} {nL pc : Nat} {own : String} {ls : Array Slot} {D : va_G} {ws : va_W} {sz : Nat} {A : Nat → Prop} {S : Type}
theorem ret_i {post : Int32 → S → Prop} {wn : S → va_W} {v : Int32} {ty : FieldType} (C : CallFix p m c cc nL s args gt own) (hr : meth.sig.returnType = some ty) (hlk : meth.locks = false) (hA : va_A ws sz = A) (hS : va_S A s.heap H locs) (u : S) (hp : post v u) (hP : va_P D cls (wn u) H) (hD : va_D A (wn u)) (hn : narrow ty (.int v) = .int v) (h1 : cells ≤ mc) (h2 : slots ≤ ms) (hd : decode cc pc = .ok (.ireturn, 1)) :
    W p l e R s m args below meth c H locs cells slots (MQ below (pstI D ws sz post wn) args s mc ms A) (F0 m pc ls [.int v]) := by
  subst hA
  exact W.widen h1 h2 (W.zret C.1 C.2.1 hr hn (fun t ht _ => ⟨⟨v, u, rfl, hp, by rw [ht]; exact hP, hD⟩, hS.F ht⟩) hS.2.2 hd hlk)
theorem ret_v {post : S → Prop} {wn : S → va_W} (C : CallFix p m c cc nL s args gt own) (hr : meth.sig.returnType = none) (hlk : meth.locks = false) (hA : va_A ws sz = A) (hS : va_S A s.heap H locs) (u : S) (hp : post u) (hP : va_P D cls (wn u) H) (hD : va_D A (wn u)) (h1 : cells ≤ mc) (h2 : slots ≤ ms) (hd : decode cc pc = .ok (.return_, 1)) :
    W p l e R s m args below meth c H locs cells slots (MQ below (pstV D ws sz post wn) args s mc ms A) (F0 m pc ls []) := by
  subst hA
  exact W.widen h1 h2 (W.vret C.1 C.2.1 hr (fun t ht _ => ⟨⟨u, rfl, hp, by rw [ht]; exact hP, hD⟩, hS.F ht⟩) hS.2.2 hd hlk)
theorem ret_q {post : Option Nat → S → Prop} {wn : S → va_W} {v : Option Nat} {nm : String} (C : CallFix p m c cc nL s args gt own) (hr : meth.sig.returnType = some (.object nm)) (hlk : meth.locks = false) (hA : va_A ws sz = A) (hS : va_S A s.heap H locs) (u : S) (hp : post v u) (hP : va_P D cls (wn u) H) (hD : va_D A (wn u)) (h1 : cells ≤ mc) (h2 : slots ≤ ms) (hd : decode cc pc = .ok (.areturn, 1)) :
    W p l e R s m args below meth c H locs cells slots (MQ below (pstQ D ws sz post wn) args s mc ms A) (F0 m pc ls [va_rf v]) := by
  subst hA
  exact W.widen h1 h2 (W.aret C.1 C.2.1 hr (Or.inl ⟨nm, rfl⟩) (va_rf_or v) (fun t ht _ => ⟨⟨v, u, rfl, hp, by rw [ht]; exact hP, hD⟩, hS.F ht⟩) hS.2.2 hd hlk)
end RET
/-- a world, a part of it for a callee, the rest -/
def spl (ws wc wr : va_W) : Prop := ∃ isC isR : List Nat, isC.map (fun i => ws[i]?) = wc.map some ∧ isR.map (fun i => ws[i]?) = wr.map some ∧ va_nd isC = true ∧ va_nd isR = true ∧ ∀ i ∈ isR, i ∉ isC
theorem spl_mk {ws wc wr : va_W} (isC isR : List Nat) (hC : isC.map (fun i => ws[i]?) = wc.map some) (hR : isR.map (fun i => ws[i]?) = wr.map some) (h : (va_nd isC && va_nd isR && isR.all (fun i => !isC.contains i)) = true) : spl ws wc wr := by
  simp only [Bool.and_eq_true, List.all_eq_true] at h
  exact ⟨isC, isR, hC, hR, h.1.1, h.1.2, fun i hi hc => by have := h.2 i hi; simp [List.contains_iff_mem] at this; exact this hc⟩
theorem va_P.subm {D : va_G} {cl : List vw_C} {ws wc : va_W} {H : Heap} (h : va_P D cl ws H) (is : List Nat) (hs : is.map (fun i => ws[i]?) = wc.map some) : va_P D cl wc H := by
  intro k q hk
  obtain ⟨i, -, hi⟩ := va_in_of is hs hk
  exact h i q hi
section CALL
variable {p : Program} {l : Launch} {e : Env} {R : Room} {s : State} {m : MethodId} {args : Array Value} {below : List Frame} {meth : Method} {c : Code} {H : Heap} {locs : List Loc} {cells slots : Nat} {Q : State → Prop}
variable {y : MethodName} {bytes cc : ByteArray} {maxL nL n index : Nat} {ret : Option FieldType} {rm : Room} {own C : String} {b : Addr} {As rest st0 : List Value} {pc : Nat} {ls : Array Slot} {D : va_G} {cI : ClassId} {tys tys' : List (ClassId × FieldType)} {ws wc wr : va_W} {A : Nat → Prop} {S : Type}
abbrev okY (y : MethodName) (n : Nat) : Prop := y.cls ≠ "java/lang/invoke/MethodHandle" ∧ y.cls ≠ "java/lang/invoke/VarHandle" ∧ (parseMethodDescriptor y.desc).map (fun d => d.parameters.length) = some n
abbrev roomY (rm R : Room) (maxL : Nat) : Prop := rm.frames + 1 ≤ R.frames ∧ 8 + (maxL + 11) + rm.locals ≤ R.locals
theorem cb_of (C0 : CallFix p m c cc nL s args gt own) (hco : Cond.code y bytes maxL ret ∈ gt) (hini : Cond.initialized y.cls ∈ gt) (hl : Cond.methodLink own index y ∈ gt) (hd : okY y n) (hR : roomY rm R maxL) : CallB R s args own index y bytes maxL ret (.code y bytes maxL ret :: gt) rm rm.cells rm.slots n :=
  callB_of n C0.2.2.2.2 (gg hco) rfl rfl rfl (C0.2.2.2.2 _ hini) (C0.2.2.2.2 _ hl) hd hR
theorem call_i {post : Int32 → S → Prop} {wn : S → va_W} {a : Array Value} (hS : va_S A s.heap H locs) (hP : va_P D cls ws H) (hD : va_D A ws) (hA : ∀ q, s.heap.size ≤ q → A q) (hsp : spl ws wc wr)
    (run : va_P D cls wc H → va_D (fun _ => True) wc → va_Run p l e R s m args below meth c H locs cells slots rm.cells rm.slots (F0 m pc ls st0) rest (pstI D wc H.size post wn a) (va_A wc H.size))
    (kk : ∀ (r : Int32) (u : S) (H : Heap) (locs : List Loc), post r u → va_P D cls (wr ++ wn u) H → va_D A (wr ++ wn u) → va_S A s.heap H locs → W p l e R s m args below meth c H locs (cells + rm.cells) (slots + rm.slots) Q (F0 m (pc + 3) ls (.int r :: rest))) :
    W p l e R s m args below meth c H locs cells slots Q (F0 m pc ls st0) := by
  obtain ⟨isC, isR, hC, hR, hnC, hnR, hdis⟩ := hsp
  have hF := va_free hD hS hA isC hC
  refine va_calli (run (hP.subm isC hC) ((hD.sub isC hnC hC).weaken (fun _ _ _ _ => trivial))) hS (fun q _ h => hF q h) hF (fun r u t H1 locs1 ht _ hp hB _ hk hS1 => ?_)
  obtain ⟨hP1, hD1⟩ := hB
  rw [ht] at hP1
  obtain ⟨hPj, hDj⟩ := va_join hP hD isC isR hC hR hnR hdis hk hF hP1 hD1
  exact kk r u H1 locs1 hp hPj hDj hS1
theorem call_v {post : S → Prop} {wn : S → va_W} {a : Array Value} (hS : va_S A s.heap H locs) (hP : va_P D cls ws H) (hD : va_D A ws) (hA : ∀ q, s.heap.size ≤ q → A q) (hsp : spl ws wc wr)
    (run : va_P D cls wc H → va_D (fun _ => True) wc → va_Run p l e R s m args below meth c H locs cells slots rm.cells rm.slots (F0 m pc ls st0) rest (pstV D wc H.size post wn a) (va_A wc H.size))
    (kk : ∀ (u : S) (H : Heap) (locs : List Loc), post u → va_P D cls (wr ++ wn u) H → va_D A (wr ++ wn u) → va_S A s.heap H locs → W p l e R s m args below meth c H locs (cells + rm.cells) (slots + rm.slots) Q (F0 m (pc + 3) ls rest)) :
    W p l e R s m args below meth c H locs cells slots Q (F0 m pc ls st0) := by
  obtain ⟨isC, isR, hC, hR, hnC, hnR, hdis⟩ := hsp
  have hF := va_free hD hS hA isC hC
  refine va_callv (run (hP.subm isC hC) ((hD.sub isC hnC hC).weaken (fun _ _ _ _ => trivial))) hS (fun q _ h => hF q h) hF (fun u t H1 locs1 ht _ hp hB _ hk hS1 => ?_)
  obtain ⟨hP1, hD1⟩ := hB
  rw [ht] at hP1
  obtain ⟨hPj, hDj⟩ := va_join hP hD isC isR hC hR hnR hdis hk hF hP1 hD1
  exact kk u H1 locs1 hp hPj hDj hS1
theorem call_q {post : Option Nat → S → Prop} {wn : S → va_W} {a : Array Value} (hS : va_S A s.heap H locs) (hP : va_P D cls ws H) (hD : va_D A ws) (hA : ∀ q, s.heap.size ≤ q → A q) (hsp : spl ws wc wr)
    (run : va_P D cls wc H → va_D (fun _ => True) wc → va_Run p l e R s m args below meth c H locs cells slots rm.cells rm.slots (F0 m pc ls st0) rest (pstQ D wc H.size post wn a) (va_A wc H.size))
    (kk : ∀ (r : Option Nat) (u : S) (H : Heap) (locs : List Loc), post r u → va_P D cls (wr ++ wn u) H → va_D A (wr ++ wn u) → va_S A s.heap H locs → W p l e R s m args below meth c H locs (cells + rm.cells) (slots + rm.slots) Q (F0 m (pc + 3) ls (va_rf r :: rest))) :
    W p l e R s m args below meth c H locs cells slots Q (F0 m pc ls st0) := by
  obtain ⟨isC, isR, hC, hR, hnC, hnR, hdis⟩ := hsp
  have hF := va_free hD hS hA isC hC
  refine va_callq (run (hP.subm isC hC) ((hD.sub isC hnC hC).weaken (fun _ _ _ _ => trivial))) hS (fun q _ h => hF q h) hF (fun r u t H1 locs1 ht _ hp hB _ hk hS1 => ?_)
  obtain ⟨hP1, hD1⟩ := hB
  rw [ht] at hP1
  obtain ⟨hPj, hDj⟩ := va_join hP hD isC isR hC hR hnR hdis hk hF hP1 hD1
  exact kk r u H1 locs1 hp hPj hDj hS1
theorem run_s {Qc : Array Value → State → Outcome → State → Prop} {fr : Addr → Prop} (C0 : CallFix p m c cc nL s args gt own) (hK : KK D cI tys' s) (hM : Met l y (.code y bytes maxL ret :: gt) rm (pre D cI tys' H.size wc As) Qc rm.cells rm.slots fr) (hco : Cond.code y bytes maxL ret ∈ gt) (hini : Cond.initialized y.cls ∈ gt) (hl : Cond.methodLink own index y ∈ gt) (hst : Cond.static y ∈ gt) (hd : okY y n) (hR : roomY rm R maxL)
    (hn : As.length = n) (hls : ls.size = nL) (hstk : st0 = As.reverse ++ rest) (hW : (rest.map fun v => v.category).sum ≤ 8) (hdg : decode cc pc = .ok (.invokestatic index, 3)) (hf : cells + rm.cells ≤ R.cells ∧ slots + rm.slots ≤ R.slots) :
    va_P D cls wc H → va_D (fun _ => True) wc → va_Run p l e R s m args below meth c H locs cells slots rm.cells rm.slots (F0 m pc ls st0) rest (Qc As.toArray) fr := fun hP hD =>
  va_runS C0 hM ⟨cb_of C0 hco hini hl hd hR, C0.2.2.2.2 _ hst⟩ ⟨pre_blind, fun U hU hW => ⟨rfl, by rw [hU], by rw [hU]; exact hP, hD, hK.warm hW⟩⟩ rfl hn hls hstk (lv_room hW) hdg hf
theorem run_sN {Qc : Array Value → State → Outcome → State → Prop} {fr : Addr → Prop} {host : String} (C0 : CallFix p m c cc nL s args gt own) (hK : KK D cI tys' s) (hM : Met l y (.code y bytes maxL ret :: gt) rm (pre D cI tys' H.size wc As) Qc rm.cells rm.slots fr) (hco : Cond.code y bytes maxL ret ∈ gt) (hini : Cond.initialized y.cls ∈ gt) (hl : Cond.methodLinkNest own index y host ∈ nwl) (hst : Cond.static y ∈ gt) (hd : okY y n) (hR : roomY rm R maxL)
    (hn : As.length = n) (hls : ls.size = nL) (hstk : st0 = As.reverse ++ rest) (hW : (rest.map fun v => v.category).sum ≤ 8) (hdg : decode cc pc = .ok (.invokestatic index, 3)) (hf : cells + rm.cells ≤ R.cells ∧ slots + rm.slots ≤ R.slots) :
    va_P D cls wc H → va_D (fun _ => True) wc → va_Run p l e R s m args below meth c H locs cells slots rm.cells rm.slots (F0 m pc ls st0) rest (Qc As.toArray) fr := fun hP hD =>
  va_runSN C0 hM ⟨va_cnB n C0.2.2.2.2 (gg hco) rfl rfl rfl (hK.2.1.1 _ hl) (C0.2.2.2.2 _ hini) hd hR, C0.2.2.2.2 _ hst, trivial⟩ ⟨pre_blind, fun U hU hW => ⟨rfl, by rw [hU], by rw [hU]; exact hP, hD, hK.warm hW⟩⟩ rfl hn hls hstk (lv_room hW) hdg hf
theorem run_v {Qc : Array Value → State → Outcome → State → Prop} {fr : Addr → Prop} {q0 ci : Nat} {q : vw_C} {fs : List Value} (C0 : CallFix p m c cc nL s args gt own) (hK : KK D cI tys' s) (hM : Met l y (.code y bytes maxL ret :: gt) rm (pre D cI tys' H.size wc (.ref b :: As)) Qc rm.cells rm.slots fr) (hc : cls[ci]? = some q) (he : wc[q0]? = some (b, .inr (ci, fs))) (hco : Cond.code y bytes maxL ret ∈ gt) (hini : Cond.initialized y.cls ∈ gt) (hl : Cond.methodLink own index y ∈ gt) (hin : Cond.instanceMethod y ∈ gt) (hse : Cond.selects q.1 y y ∈ gt) (hd : okY y n) (hR : roomY rm R maxL)
    (hn : As.length = n) (hls : ls.size = nL) (hstk : st0 = As.reverse ++ .ref b :: rest) (hW : (rest.map fun v => v.category).sum ≤ 8) (hdg : decode cc pc = .ok (.invokevirtual index, 3)) (hf : cells + rm.cells ≤ R.cells ∧ slots + rm.slots ≤ R.slots) :
    va_P D cls wc H → va_D (fun _ => True) wc → va_Run p l e R s m args below meth c H locs cells slots rm.cells rm.slots (F0 m pc ls st0) rest (Qc (Value.ref b :: As).toArray) fr := fun hP hD =>
  va_runV C0 hM ⟨cb_of C0 hco hini hl hd hR, C0.2.2.2.2 _ hin, C0.2.2.2.2 _ hse⟩ ⟨pre_blind, va_recv hK.1 hP hc he, fun U hU hW => ⟨rfl, by rw [hU], by rw [hU]; exact hP, hD, hK.warm hW⟩⟩ rfl hn hls hstk (lv_room hW) hdg hf
end CALL
