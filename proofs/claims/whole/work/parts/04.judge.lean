/-! THE JUDGEMENT jg: a method at pc over a LOGICAL heap: cells by number (0, 1, 2 .. in the order in which the law makes them), the machine's heap is the old one with these behind it. -/
/-- a logical cell: an object (class number, fields) or an array (kind, length, contents); class numbers beyond the list: nothing is said -/
abbrev jg_C : Type := (Nat × List Value) ⊕ (Nat × Nat × ((Nat → Int32) ⊕ (Nat → Int64) ⊕ (Nat → Option Nat)))
abbrev jg_H : Type := (Nat → jg_C) × Nat
/-- launch, class numbers, array classes, old heap, the constants' addresses -/
abbrev jg_G : Type := Launch × va_G × (Nat → ClassId) × Heap × (Nat → Nat)
def jg_l (Γ : jg_G) : Launch := Γ.1
def jg_D (Γ : jg_G) : va_G := Γ.2.1
def jg_dA (Γ : jg_G) : Nat → ClassId := Γ.2.2.1
def jg_H0 (Γ : jg_G) : Heap := Γ.2.2.2.1
def jg_x (Γ : jg_G) : Nat → Nat := Γ.2.2.2.2
def jg_z (Γ : jg_G) : Nat := (jg_H0 Γ).size
/-- the address of a number: new cells behind the old heap; from 1000000 on constants -/
def jg_a (Γ : jg_G) (k : Nat) : Nat := if k < 1000000 then jg_z Γ + k else jg_x Γ (k - 1000000)
def jg_v (Γ : jg_G) (v : Value) : Value := match v with
  | .ref a => .ref (jg_a Γ a)
  | v => v
abbrev jg_cl : List vw_C := [(RX0, TX0, 6), (RX1, TX1, 9), (RX2, TX2, 10), (RX3, TX3, 10), (RX4, TX4, 12), (RX5, TX5, 8), (RX6, TX6, 14), (RX7, TX7, 12), (RX8, TX8, 14), (RX9, TX9, 19), (RX10, TX10, 6), (RX11, TX11, 5), (RX12, TX12, 23)]
/-- the kinds of arrays: 0 int, 1 byte, 2 boolean, 3 long, 4 Act, 5 Berth, 6 Ship, 7 int[] -/
abbrev jg_ty : List FieldType := [.int, .byte, .boolean, .long, .object RX0, .object RX1, .object RX9, .array .int]
abbrev jg_tys (Γ : jg_G) : List (ClassId × FieldType) := [(jg_dA Γ 0, .int), (jg_dA Γ 1, .byte), (jg_dA Γ 2, .boolean), (jg_dA Γ 3, .long), (jg_dA Γ 4, .object RX0), (jg_dA Γ 5, .object RX1), (jg_dA Γ 6, .object RX9), (jg_dA Γ 7, .array .int)]
def jg_ar (Γ : jg_G) (f : (Nat → Int32) ⊕ (Nat → Int64) ⊕ (Nat → Option Nat)) : (Nat → Int32) ⊕ (Nat → Int64) ⊕ (Nat → UInt32) ⊕ (Nat → UInt64) ⊕ (Nat → Option Nat) := match f with
  | .inl f => .inl f
  | .inr (.inl f) => .inr (.inl f)
  | .inr (.inr f) => .inr (.inr (.inr (.inr (fun j => (f j).map (jg_a Γ)))))
def jg_at (Γ : jg_G) (k : Nat) (H : Heap) (x : jg_C) : Prop := match x with
  | .inl o => ∀ r : vw_C, jg_cl[o.1]? = some r → t_OB (jg_a Γ k) ((jg_D Γ).1 o.1) r.2.2 ((jg_D Γ).2 o.1) H (vp_V (o.2.map (jg_v Γ)))
  | .inr q => H[jg_a Γ k]? = some (vp_cell (jg_dA Γ q.1) (q.2.1, jg_ar Γ q.2.2))
/-- the machine's heap H holds the logical one -/
def jg_R (Γ : jg_G) (h : jg_H) (H : Heap) : Prop := H.size = jg_z Γ + h.2 ∧ h.2 ≤ 1000000 ∧ (∀ q : Nat, q < jg_z Γ → H[q]? = (jg_H0 Γ)[q]?) ∧ ∀ k : Nat, k < h.2 → jg_at Γ k H (h.1 k)
def jg_L (Γ : jg_G) (nL : Nat) (ls : Array Slot) (L : List (Option Value)) : Prop := ls.size = nL ∧ lv_wf ls ∧ ∀ (i : Nat) (v : Value), L[i]? = some (some v) → ls[i]? = some (.val (jg_v Γ v))
/-- string constants: class, entry, text -/
def jg_str : List (String × Nat × String) := [
("SiltHarbour", 461, "there is no such one"),
("SiltHarbour", 464, "a number is none"),
("SiltHarbour", 468, "the call is not for now"),
("SiltHarbour", 473, "there are as many as there may be"),
("SiltHarbour", 107, "a cell has no such number"),
("SiltHarbour", 232, "a ship has no such number"),
("SiltHarbour", 258, "a berth has no such number"),
("SiltHarbour$Reader", 103, "ton     ship    back    vote    turn    clear   pass    borrow  "),
("SiltHarbour$Reader", 109, "coal    grain   timber  cotton  ore     mail    foreign tons    long    stay    paid    last    "),
("SiltHarbour$Reader", 111, "come    good    if      or      and     not     down    "),
("SiltHarbour", 273, "the text is wrong"),
("SiltHarbour", 333, "no such judgement"),
("SiltHarbour", 350, "a payer has no such number"),
("SiltHarbour", 386, "a bond has no such number"),
("SiltHarbourModel", 311, "ton"),
("SiltHarbourModel", 313, "ship"),
("SiltHarbourModel", 315, "back"),
("SiltHarbourModel", 317, "vote"),
("SiltHarbourModel", 319, "turn"),
("SiltHarbourModel", 321, "clear"),
("SiltHarbourModel", 323, "pass"),
("SiltHarbourModel", 325, "borrow"),
("SiltHarbourModel", 327, "come"),
("SiltHarbourModel", 262, "tons"),
("SiltHarbourModel", 264, "long"),
("SiltHarbourModel", 329, "good"),
("SiltHarbourModel", 331, "down"),
("SiltHarbourModel", 339, "if"),
("SiltHarbourModel", 282, "not"),
("SiltHarbourModel", 248, "coal"),
("SiltHarbourModel", 250, "grain"),
("SiltHarbourModel", 252, "timber"),
("SiltHarbourModel", 254, "cotton"),
("SiltHarbourModel", 256, "ore"),
("SiltHarbourModel", 258, "mail"),
("SiltHarbourModel", 260, "foreign"),
("SiltHarbourModel", 266, "stay"),
("SiltHarbourModel", 268, "paid"),
("SiltHarbourModel", 270, "last"),
("SiltHarbourModel", 304, "and"),
("SiltHarbourModel", 309, "or")]
def jg_nest : List Cond := [
(Jvm.Cond.methodLinkNest "SiltHarbour$Port" (17 : Nat) ({ cls := "SiltHarbour$Berth", name := "<init>", desc := "()V" } : Jvm.MethodName) "SiltHarbour"),
(Jvm.Cond.methodLinkNest "SiltHarbour$River" (45 : Nat) ({ cls := "SiltHarbour", name := "copyRow", desc := "([I[I)V" } : Jvm.MethodName) "SiltHarbour"),
(Jvm.Cond.methodLinkNest "SiltHarbour$Soundings" (33 : Nat) ({ cls := "SiltHarbour", name := "copyRow", desc := "([I[I)V" } : Jvm.MethodName) "SiltHarbour"),
(Jvm.Cond.methodLinkNest "SiltHarbour$Port" (51 : Nat) ({ cls := "SiltHarbour", name := "copyRow", desc := "([I[I)V" } : Jvm.MethodName) "SiltHarbour"),
(Jvm.Cond.methodLinkNest "SiltHarbour$Purse" (49 : Nat) ({ cls := "SiltHarbour", name := "copyRow", desc := "([I[I)V" } : Jvm.MethodName) "SiltHarbour"),
(Jvm.Cond.methodLinkNest "SiltHarbour$Laws" (39 : Nat) ({ cls := "SiltHarbour", name := "copyRow", desc := "([I[I)V" } : Jvm.MethodName) "SiltHarbour"),
(Jvm.Cond.methodLinkNest "SiltHarbour$Plans" (44 : Nat) ({ cls := "SiltHarbour", name := "copyRow", desc := "([I[I)V" } : Jvm.MethodName) "SiltHarbour"),
(Jvm.Cond.methodLinkNest "SiltHarbour$Board" (305 : Nat) ({ cls := "SiltHarbour", name := "capped", desc := "(J)I" } : Jvm.MethodName) "SiltHarbour"),
(Jvm.Cond.methodLinkNest "SiltHarbour$Purse" (59 : Nat) ({ cls := "SiltHarbour", name := "capped", desc := "(J)I" } : Jvm.MethodName) "SiltHarbour")]
/-- the bytes of the string constants -/
def jg_byt : List (List Int32) := [[116, 104, 101, 114, 101, 32, 105, 115, 32, 110, 111, 32, 115, 117, 99, 104, 32, 111, 110, 101],
[97, 32, 110, 117, 109, 98, 101, 114, 32, 105, 115, 32, 110, 111, 110, 101],
[116, 104, 101, 32, 99, 97, 108, 108, 32, 105, 115, 32, 110, 111, 116, 32, 102, 111, 114, 32, 110, 111, 119],
[116, 104, 101, 114, 101, 32, 97, 114, 101, 32, 97, 115, 32, 109, 97, 110, 121, 32, 97, 115, 32, 116, 104, 101, 114, 101, 32, 109, 97, 121, 32, 98, 101],
[97, 32, 99, 101, 108, 108, 32, 104, 97, 115, 32, 110, 111, 32, 115, 117, 99, 104, 32, 110, 117, 109, 98, 101, 114],
[97, 32, 115, 104, 105, 112, 32, 104, 97, 115, 32, 110, 111, 32, 115, 117, 99, 104, 32, 110, 117, 109, 98, 101, 114],
[97, 32, 98, 101, 114, 116, 104, 32, 104, 97, 115, 32, 110, 111, 32, 115, 117, 99, 104, 32, 110, 117, 109, 98, 101, 114],
[116, 111, 110, 32, 32, 32, 32, 32, 115, 104, 105, 112, 32, 32, 32, 32, 98, 97, 99, 107, 32, 32, 32, 32, 118, 111, 116, 101, 32, 32, 32, 32, 116, 117, 114, 110, 32, 32, 32, 32, 99, 108, 101, 97, 114, 32, 32, 32, 112, 97, 115, 115, 32, 32, 32, 32, 98, 111, 114, 114, 111, 119, 32, 32],
[99, 111, 97, 108, 32, 32, 32, 32, 103, 114, 97, 105, 110, 32, 32, 32, 116, 105, 109, 98, 101, 114, 32, 32, 99, 111, 116, 116, 111, 110, 32, 32, 111, 114, 101, 32, 32, 32, 32, 32, 109, 97, 105, 108, 32, 32, 32, 32, 102, 111, 114, 101, 105, 103, 110, 32, 116, 111, 110, 115, 32, 32, 32, 32, 108, 111, 110, 103, 32, 32, 32, 32, 115, 116, 97, 121, 32, 32, 32, 32, 112, 97, 105, 100, 32, 32, 32, 32, 108, 97, 115, 116, 32, 32, 32, 32],
[99, 111, 109, 101, 32, 32, 32, 32, 103, 111, 111, 100, 32, 32, 32, 32, 105, 102, 32, 32, 32, 32, 32, 32, 111, 114, 32, 32, 32, 32, 32, 32, 97, 110, 100, 32, 32, 32, 32, 32, 110, 111, 116, 32, 32, 32, 32, 32, 100, 111, 119, 110, 32, 32, 32, 32],
[116, 104, 101, 32, 116, 101, 120, 116, 32, 105, 115, 32, 119, 114, 111, 110, 103],
[110, 111, 32, 115, 117, 99, 104, 32, 106, 117, 100, 103, 101, 109, 101, 110, 116],
[97, 32, 112, 97, 121, 101, 114, 32, 104, 97, 115, 32, 110, 111, 32, 115, 117, 99, 104, 32, 110, 117, 109, 98, 101, 114],
[97, 32, 98, 111, 110, 100, 32, 104, 97, 115, 32, 110, 111, 32, 115, 117, 99, 104, 32, 110, 117, 109, 98, 101, 114],
[116, 111, 110],
[115, 104, 105, 112],
[98, 97, 99, 107],
[118, 111, 116, 101],
[116, 117, 114, 110],
[99, 108, 101, 97, 114],
[112, 97, 115, 115],
[98, 111, 114, 114, 111, 119],
[99, 111, 109, 101],
[116, 111, 110, 115],
[108, 111, 110, 103],
[103, 111, 111, 100],
[100, 111, 119, 110],
[105, 102],
[110, 111, 116],
[99, 111, 97, 108],
[103, 114, 97, 105, 110],
[116, 105, 109, 98, 101, 114],
[99, 111, 116, 116, 111, 110],
[111, 114, 101],
[109, 97, 105, 108],
[102, 111, 114, 101, 105, 103, 110],
[115, 116, 97, 121],
[112, 97, 105, 100],
[108, 97, 115, 116],
[97, 110, 100],
[111, 114]]
/-- which class is which, and which constructors a class declares itself -/
def jg_cd : List Cond := [(Jvm.Cond.castable "java/lang/IndexOutOfBoundsException" "java/lang/IndexOutOfBoundsException"),
(Jvm.Cond.declares ({ cls := "java/lang/RuntimeException", name := "<init>", desc := "()V" } : Jvm.MethodName)),
(Jvm.Cond.declares ({ cls := "java/lang/RuntimeException", name := "<init>", desc := "(Ljava/lang/String;)V" } : Jvm.MethodName)),
(Jvm.Cond.declares ({ cls := "java/lang/Exception", name := "<init>", desc := "()V" } : Jvm.MethodName)),
(Jvm.Cond.declares ({ cls := "java/lang/Exception", name := "<init>", desc := "(Ljava/lang/String;)V" } : Jvm.MethodName)),
(Jvm.Cond.declares ({ cls := "java/lang/Throwable", name := "<init>", desc := "()V" } : Jvm.MethodName)),
(Jvm.Cond.declares ({ cls := "java/lang/Throwable", name := "<init>", desc := "(Ljava/lang/String;)V" } : Jvm.MethodName)),
(Jvm.Cond.castable "java/lang/IllegalArgumentException" "java/lang/IllegalArgumentException"),
(Jvm.Cond.castable "java/lang/IllegalStateException" "java/lang/IllegalStateException"),
(Jvm.Cond.castable "java/lang/UnsupportedOperationException" "java/lang/UnsupportedOperationException"),
(Jvm.Cond.castable "java/util/NoSuchElementException" "java/util/NoSuchElementException"),
(Jvm.Cond.castable "[I" "java/lang/Cloneable"),
(Jvm.Cond.castable "SiltHarbour" "java/lang/Object"),
(Jvm.Cond.castable "SiltHarbour$Reader" "java/lang/Object"),
(Jvm.Cond.castable "SiltHarbour$Board" "java/lang/Object"),
(Jvm.Cond.castable "SiltHarbour$River" "java/lang/Object"),
(Jvm.Cond.castable "SiltHarbour$Soundings" "java/lang/Object"),
(Jvm.Cond.castable "SiltHarbour$Laws" "java/lang/Object"),
(Jvm.Cond.castable "SiltHarbour$Act" "java/lang/Object"),
(Jvm.Cond.castable "SiltHarbour$Port" "java/lang/Object"),
(Jvm.Cond.castable "SiltHarbour$Berth" "java/lang/Object"),
(Jvm.Cond.castable "SiltHarbour$Ship" "java/lang/Object"),
(Jvm.Cond.castable "SiltHarbour$Purse" "java/lang/Object"),
(Jvm.Cond.castable "SiltHarbour$Plans" "java/lang/Object"),
(Jvm.Cond.castable "SiltHarbourModel" "java/lang/Object"),
(Jvm.Cond.castable "java/lang/IndexOutOfBoundsException" "java/lang/Object"),
(Jvm.Cond.castable "java/lang/IllegalArgumentException" "java/lang/Object"),
(Jvm.Cond.castable "java/lang/IllegalStateException" "java/lang/Object"),
(Jvm.Cond.castable "java/lang/UnsupportedOperationException" "java/lang/Object"),
(Jvm.Cond.castable "java/util/NoSuchElementException" "java/lang/Object"),
(Jvm.Cond.castable "java/lang/Throwable" "java/lang/Object"),
(Jvm.Cond.castable "java/lang/String" "java/lang/Object")]
/-- arrays of arrays -/
def va_AOA (ty : FieldType) (U : State) : Prop := (Cond.arrayOver (.array ty)).before #[] U = true
theorem va_AOA.use {ty : FieldType} {A : Array Value} {U : State} (h : va_AOA ty U) : (Cond.arrayOver (.array ty)).before A U = true := h
theorem va_AOA.moved {ty : FieldType} {u U : State} (hvm : u.vm.Alike U.vm) (h : va_AOA ty u) : va_AOA ty U := by
  unfold va_AOA Cond.before Cond.holds at h ⊢
  simp only [Cond.value] at h ⊢
  cases hc : u.vm.findClass (FieldType.array ty).toString with
  | none => rw [hc] at h; exact absurd h (by simp)
  | some comp =>
    rw [hc, Option.bind_some] at h
    rw [show U.vm.findClass (FieldType.array ty).toString = some comp by rw [hvm.findClass]; exact hc, Option.bind_some]
    have h2 : (fun o : Option Nat => (o.bind (fun c => (u.vm.classes[c]?).map fun (k : Class) => match k.kind with | .array _ t9 => decide (t9 = FieldType.array ty) && decide (u.vm.findClass ("[" ++ (FieldType.array ty).toString) = some c) | _ => false) == some true)) (u.vm.classes.findIdx? fun (x : Class) => match x.kind with | .array component _ => component == comp | _ => false) = true := h
    show (fun o : Option Nat => (o.bind (fun c => (U.vm.classes[c]?).map fun (k : Class) => match k.kind with | .array _ t9 => decide (t9 = FieldType.array ty) && decide (U.vm.findClass ("[" ++ (FieldType.array ty).toString) = some c) | _ => false) == some true)) (U.vm.classes.findIdx? fun (x : Class) => match x.kind with | .array component _ => component == comp | _ => false) = true
    have hi : (U.vm.classes.findIdx? fun (x : Class) => match x.kind with | .array component _ => component == comp | _ => false) = (u.vm.classes.findIdx? fun (x : Class) => match x.kind with | .array component _ => component == comp | _ => false) := by
      have e := va_idx_bare U.vm comp
      have e2 := va_idx_bare u.vm comp
      first | (rw [hvm.bare_eq] at e; exact e.symm.trans e2) | (rw [← hvm.bare_eq] at e; exact e.symm.trans e2)
    rw [hi]
    generalize (u.vm.classes.findIdx? fun (x : Class) => match x.kind with | .array component _ => component == comp | _ => false) = o at h2 ⊢
    cases o with
    | none => exact absurd h2 (by simp)
    | some c =>
      cases hk : u.vm.classes[c]? with
      | none => simp [hk] at h2
      | some k =>
        obtain ⟨k', hk', he⟩ := hvm.2.2 _ _ hk
        have hkind : k'.kind = k.kind := by rw [he]
        simp only [Option.bind_some, hk, Option.map_some] at h2
        simp only [Option.bind_some, hk', Option.map_some, hkind, hvm.findClass]
        exact h2
/-- the string constants and their bytes, in the old heap -/
def jg_sc (Γ : jg_G) (U : State) : Prop := (∀ i : Nat, i < 41 → va_O "java/lang/String" (jg_x Γ i) (fun q => jg_z Γ ≤ q) U (jg_H0 Γ) ∧ va_OF "java/lang/String" "coder" "B" (.int 0) (jg_x Γ i) (fun q => jg_z Γ ≤ q) U (jg_H0 Γ) ∧ va_OF "java/lang/String" "value" "[B" (.ref (jg_x Γ (100 + i))) (jg_x Γ i) (fun q => jg_z Γ ≤ q) U (jg_H0 Γ) ∧ va_T .byte (jg_x Γ (100 + i)) ((jg_byt.getD i []).length) (fun j => .int ((jg_byt.getD i []).getD j 0)) (fun q => jg_z Γ ≤ q) U (jg_H0 Γ)) ∧ va_Z "java/lang/String" "COMPACT_STRINGS" "Z" (.int 1) (fun q => jg_z Γ ≤ q) U (jg_H0 Γ) ∧ (va_Z "jdk/internal/util/Preconditions" "SIOOBE_FORMATTER" "Ljava/util/function/BiFunction;" .null (fun q => jg_z Γ ≤ q) U (jg_H0 Γ) ∨ va_Z "jdk/internal/util/Preconditions" "SIOOBE_FORMATTER" "Ljava/util/function/BiFunction;" (.ref (jg_x Γ 300)) (fun q => jg_z Γ ≤ q) U (jg_H0 Γ)) ∧ va_AOA .int U
theorem jg_sc.moved {Γ : jg_G} {u U : State} (hvm : u.vm.Alike U.vm) (h : jg_sc Γ u) : jg_sc Γ U := ⟨fun i hi => ⟨va_O.moved hvm (h.1 i hi).1, va_OF.moved hvm (h.1 i hi).2.1, va_OF.moved hvm (h.1 i hi).2.2.1, va_T.moved hvm (h.1 i hi).2.2.2⟩, va_Z.moved hvm h.2.1, h.2.2.1.imp (va_Z.moved hvm) (va_Z.moved hvm), va_AOA.moved hvm h.2.2.2⟩
/-- what a state's tables and old heap hold, whatever the method -/
def jg_U (Γ : jg_G) (U : State) : Prop := (jg_l Γ).stackTraces = false ∧ va_K (jg_D Γ) jg_cl (jg_tys Γ) U ∧ vx_Zq Bundle.tN "UNASSIGNED_STACK" Bundle.steD (fun q => jg_z Γ ≤ q) U (jg_H0 Γ) ∧ vx_Zq Bundle.tN "SUPPRESSED_SENTINEL" Bundle.listD (fun q => jg_z Γ ≤ q) U (jg_H0 Γ) ∧
  (∀ (i : Nat) (q : String × Nat × String), jg_str[i]? = some q → vk_R q.1 q.2.1 q.2.2 (jg_x Γ i) U) ∧ (∀ w ∈ jg_nest, va_Nw w U) ∧ va_AO RX0 U ∧ va_AO RX1 U ∧ va_AO RX9 U ∧ (∀ w ∈ jg_cd, va_Nw w U) ∧ jg_sc Γ U
theorem jg_nestW {s U : State} (hW : s.WarmedH U.vm) (h : ∀ w ∈ jg_nest, va_Nw w s) : ∀ w ∈ jg_nest, va_Nw w U := by
  intro w hw
  have h1 := h w hw
  simp only [jg_nest, List.mem_cons, List.not_mem_nil, or_false] at hw
  rcases hw with rfl | rfl | rfl | rfl | rfl | rfl | rfl | rfl | rfl <;> exact va_Nw.warmM hW h1
theorem jg_cdW {s U : State} (hW : s.WarmedH U.vm) (h : ∀ w ∈ jg_cd, va_Nw w s) : ∀ w ∈ jg_cd, va_Nw w U := by
  intro w hw
  have h1 := h w hw
  simp only [jg_cd, List.mem_cons, List.not_mem_nil, or_false] at hw
  rcases hw with rfl | rfl | rfl | rfl | rfl | rfl | rfl | rfl | rfl | rfl | rfl | rfl | rfl | rfl | rfl | rfl | rfl | rfl | rfl | rfl | rfl | rfl | rfl | rfl | rfl | rfl | rfl | rfl | rfl | rfl | rfl | rfl <;> first | exact va_Nw.warmC hW h1 | exact va_Nw.warmD hW h1
theorem jg_U.warm {Γ : jg_G} {s U : State} (hW : s.WarmedH U.vm) (h : jg_U Γ s) : jg_U Γ U := by
  obtain ⟨h0, h1, h2, h3, h4, h5, h6, h7, h8, h9, h10⟩ := h
  exact ⟨h0, va_K.moved hW.alike h1, vx_Zq.moved hW.alike h2, vx_Zq.moved hW.alike h3, fun i q hq => vk_R.warm hW (h4 i q hq), jg_nestW hW h5, h6.moved hW.alike, h7.moved hW.alike, h8.moved hW.alike, jg_cdW hW h9, h10.moved hW.alike⟩
/-- a method: its name, its code, how many locals, what it returns -/
abbrev jg_Md : Type := MethodName × ByteArray × Nat × Option FieldType
def jg_ws : List Cond := lw_tbl.filter goodWord
def jg_E (Γ : jg_G) (M : jg_Md) (d : Nat) (p : Program) (R : Room) (s : State) (m : MethodId) (args : Array Value) (meth : Method) (c : Code) : Prop :=
  p.tables.exec = Jvm.exec ∧ c.code = M.2.1 ∧ meth.sig.returnType = M.2.2.2 ∧ c.maxLocals = M.2.2.1 ∧ s.vm.findClass M.1.cls = some m.cls ∧ (∀ w ∈ jg_ws, w.before args s = true) ∧ meth.locks = false ∧ meth.name = M.1.name ∧ d ≤ R.frames ∧ 64 * d ≤ R.locals ∧ jg_U Γ s ∧ (∀ x ∈ c.exceptionTable.toList, False) ∧ jg_z Γ ≤ s.heap.size ∧ ∀ q : Nat, q < jg_z Γ → s.heap[q]? = (jg_H0 Γ)[q]?
/-- an end: an answer, or the class of what is thrown; and the heap then -/
abbrev jg_Q : Type := (Option Value ⊕ String) → jg_H → Prop
def jg_Qc (Γ : jg_G) (Q : jg_Q) : Array Value → State → Outcome → State → Prop := fun _ _ o t => ∃ (v : Option Value) (h : jg_H), o = .returned (v.map (jg_v Γ)) ∧ Q (.inl v) h ∧ jg_R Γ h t.heap
def jg_Xc (Γ : jg_G) (Q : jg_Q) : String → State → State → Prop := fun E _ t => ∃ h : jg_H, Q (.inr E) h ∧ jg_R Γ h t.heap
/-- from pc with these locals, this stack and this heap the method ends as Q says; at most d frames deep, at most a cells of b slots are made -/
def jg (Γ : jg_G) (M : jg_Md) (d a b pc : Nat) (L : List (Option Value)) (S : List Value) (h : jg_H) (Q : jg_Q) : Prop :=
  ∀ (p : Program) (e : Env) (R : Room) (s : State) (m : MethodId) (args : Array Value) (below : List Frame) (meth : Method) (c : Code) (H : Heap) (ls : Array Slot) (locs : List Loc) (cells slots mc ms : Nat),
    jg_E Γ M d p R s m args meth c → cells + a ≤ mc → slots + b ≤ ms → mc ≤ R.cells → ms ≤ R.slots → (∀ q ∈ locs, jg_z Γ ≤ q.base) → s.heap.size ≤ H.size → jg_R Γ h H → jg_L Γ M.2.2.1 ls L →
    W p (jg_l Γ) e R s m args below meth c H locs cells slots (vx_MQ below (jg_Qc Γ Q) (jg_Xc Γ Q) args s mc ms (fun q => jg_z Γ ≤ q)) (F0 m pc ls (S.map (jg_v Γ)))
theorem jg_v_int (Γ : jg_G) (x : Int32) : jg_v Γ (.int x) = .int x := rfl
theorem jg_v_cat (Γ : jg_G) (v : Value) : (jg_v Γ v).category = v.category := by cases v <;> rfl
/-- deeper room is room -/
theorem jg_deep {Γ : jg_G} {M : jg_Md} {d d' a b pc : Nat} {L : List (Option Value)} {S : List Value} {h : jg_H} {Q : jg_Q} (hd : d ≤ d') (k : jg Γ M d a b pc L S h Q) : jg Γ M d' a b pc L S h Q := by
  intro p e R s m args below meth c H ls locs cells slots mc ms hE h1 h2 h3 h4 hf hz hR hL
  obtain ⟨e1, e2, e3, e4, e5, e6, e7, e8, e9, e10, e11⟩ := hE
  exact k p e R s m args below meth c H ls locs cells slots mc ms ⟨e1, e2, e3, e4, e5, e6, e7, e8, by omega, by omega, e11⟩ h1 h2 h3 h4 hf hz hR hL
/-- less is made than may be -/
theorem jg_less {Γ : jg_G} {M : jg_Md} {d a b a' b' pc : Nat} {L : List (Option Value)} {S : List Value} {h : jg_H} {Q : jg_Q} (ha : a ≤ a') (hb : b ≤ b') (k : jg Γ M d a b pc L S h Q) : jg Γ M d a' b' pc L S h Q := by
  intro p e R s m args below meth c H ls locs cells slots mc ms hE h1 h2 h3 h4 hf hz hR hL
  exact k p e R s m args below meth c H ls locs cells slots mc ms hE (by omega) (by omega) h3 h4 hf hz hR hL
/-- a weaker end -/
theorem jg_mono {Γ : jg_G} {M : jg_Md} {d a b pc : Nat} {L : List (Option Value)} {S : List Value} {h : jg_H} {Q Q' : jg_Q} (hq : ∀ r h', Q r h' → Q' r h') (k : jg Γ M d a b pc L S h Q) : jg Γ M d a b pc L S h Q' := by
  intro p e R s m args below meth c H ls locs cells slots mc ms hE h1 h2 h3 h4 hf hz hR hL T hT X
  obtain ⟨t, g1, o, g2, g3, g4⟩ := k p e R s m args below meth c H ls locs cells slots mc ms hE h1 h2 h3 h4 hf hz hR hL T hT X
  refine ⟨t, g1, o, g2, g3, ?_⟩
  rcases g4 with ⟨⟨v, h', q1, q2, q3⟩, g5⟩ | ⟨q, e1, E, ce, Lx, ⟨h', q2, q3⟩, g5⟩
  · exact Or.inl ⟨⟨v, h', q1, hq _ _ q2, q3⟩, g5⟩
  · exact Or.inr ⟨q, e1, E, ce, Lx, ⟨h', hq _ _ q2, q3⟩, g5⟩
