/-! THE JUDGEMENT zz: a frame with named locals over any heap of a world G; its rows are the kit's own, wrapped -/
def gT : List Cond := lw_tbl.filter goodWord
theorem gT_in {w : Cond} (h : w ∈ lw_tbl) (hg : goodWord w = true) : w ∈ gT := List.mem_filter.mpr ⟨h, hg⟩
theorem gT_t {w : Cond} (i : Nat) (h : tables_1[i]? = some w) (hg : goodWord w = true) : w ∈ gT := gT_in (List.mem_append_right _ (List.mem_of_getElem? h)) hg
theorem gT_s {w : Cond} (i : Nat) (h : (k2_sels lw_privs)[i]? = some w) (hg : goodWord w = true) : w ∈ gT := gT_in (List.mem_append_left _ (List.mem_of_getElem? h)) hg
theorem gT_good {w : Cond} (h : w ∈ gT) : (w.onTables && w.keeps) = true ∨ ∃ ty, w = .arrayClass ty := good_of_word (List.mem_filter.mp h).2
def gF : List Cond := lw_tbl.filter (fun w => w.onTables && w.faceAtom)
theorem gF_moved {u U : State} (hvm : u.vm.Alike U.vm) (h : ∀ w ∈ gF, w.before #[] u = true) : ∀ w ∈ gF, w.before #[] U = true := by
  intro w hw
  have hg := (List.mem_filter.mp hw).2
  simp only [Bool.and_eq_true] at hg
  exact va_tabs (u := u.setVm U.vm) hg.1 rfl (Cond.faceAtom_setVm hvm w hg.2 (h w hw))
def ztys (dA : Nat → ClassId) : List (ClassId × FieldType) := [(dA 0, .int), (dA 1, .object "MeshBiller$Zone"), (dA 2, .object "MeshBiller$Cell"), (dA 3, .object "MeshBiller$Wallet"), (dA 4, .object "MeshBiller$Phone"), (dA 5, .object "java/lang/Object"), (dA 6, .byte), (dA 7, .int)]
def zK (D : va_G) (dA : Nat → ClassId) (U : State) : Prop := va_K D vwCl (ztys dA) U
/-- the strings of the thrown messages: index in the pool, text -/
def zstrs : List (Nat × String) := [(353, "no such cell"), (73, "zone is out of range"), (84, "a call has been begun"), (94, "channels or guarded is out of range"), (106, "zone or rate is out of range"), (121, "seconds is out of range"), (355, "no such phone"), (128, "cap is out of range"), (357, "no such wallet"), (141, "the phone is in a call"), (148, "amount is out of range"), (153, "both wallets are the same, or amount is out of range"), (155, "too little free money"), (157, "zones, seconds, days, rank or price is out of range"), (163, "too little free money, or too many bundles"), (201, "no such bundle"), (215, "both phones are the same"), (217, "one of both is in a call"), (226, "there are no channels for both"), (228, "too many calls or legs"), (359, "no such call"), (254, "the phone is in a call, or the call is over or full"), (256, "there is no channel, or there are too many legs"), (259, "the phone is in no call"), (278, "the second would be above the last one"), (361, "no such leg"), (326, "place is below 0")]
/-- of what there are arrays -/
def zarrs : List String := ["java/lang/Object", "MeshBiller$Zone", "MeshBiller$Cell", "MeshBiller$Wallet", "MeshBiller$Phone"]
/-- what the statics hold, all that a method of this claim reads of them; no method writes them -/
def zSt (dA : Nat → ClassId) (A : Nat → Prop) (U : State) (H : Heap) : Prop :=
  vx_Zq Bundle.tN "UNASSIGNED_STACK" Bundle.steD A U H ∧ vx_Zq Bundle.tN "SUPPRESSED_SENTINEL" Bundle.listD A U H ∧
  (∀ q ∈ zstrs, ∃ a, vk_R "MeshBiller" q.1 q.2 a U) ∧
  (va_Z "java/util/ArrayList" "DEFAULTCAPACITY_EMPTY_ELEMENTDATA" "[Ljava/lang/Object;" (.ref (dA 99)) A U H ∧ va_T (.object "java/lang/Object") (dA 99) 0 (fun _ => .null) A U H) ∧ (∀ w ∈ gF, w.before #[] U = true) ∧
  va_Nw (.methodLinkNest "MeshBiller$Leg" 11 ⟨"MeshBiller$Slice", "<init>", "()V"⟩ "MeshBiller") U ∧ va_Mi "[Ljava/lang/Object;" (dA 98) U ∧
  (va_Z "java/lang/String" "COMPACT_STRINGS" "Z" (.int 1) A U H ∧ vx_Zq "jdk/internal/util/Preconditions" "SIOOBE_FORMATTER" "Ljava/util/function/BiFunction;" A U H) ∧ va_Z "java/lang/Integer" "DigitOnes" "[B" (.ref (dA 97)) A U H ∧ va_T .byte (dA 97) 100 (fun j => .int (nI (48 + j % 10))) A U H ∧ va_Z "java/lang/Integer" "DigitTens" "[B" (.ref (dA 96)) A U H ∧ va_T .byte (dA 96) 100 (fun j => .int (nI (48 + j / 10))) A U H ∧ ∀ C ∈ zarrs, va_AO C U
theorem zSt.moved {dA : Nat → ClassId} {A : Nat → Prop} {u U : State} {H : Heap} (hvm : u.vm.Alike U.vm) (hs : ∀ k tx a, vk_R "MeshBiller" k tx a u → vk_R "MeshBiller" k tx a U) (hn : ∀ a i x h, va_Nw (.methodLinkNest a i x h) u → va_Nw (.methodLinkNest a i x h) U) (h : zSt dA A u H) : zSt dA A U H :=
  ⟨h.1.moved hvm, h.2.1.moved hvm, fun q hq => (h.2.2.1 q hq).elim fun a ha => ⟨a, hs _ _ _ ha⟩, ⟨va_Z.moved hvm h.2.2.2.1.1, va_T.moved hvm h.2.2.2.1.2⟩, gF_moved hvm h.2.2.2.2.1, hn _ _ _ _ h.2.2.2.2.2.1, va_Mi.moved hvm h.2.2.2.2.2.2.1, ⟨va_Z.moved hvm h.2.2.2.2.2.2.2.1.1, h.2.2.2.2.2.2.2.1.2.moved hvm⟩, va_Z.moved hvm h.2.2.2.2.2.2.2.2.1, va_T.moved hvm h.2.2.2.2.2.2.2.2.2.1, va_Z.moved hvm h.2.2.2.2.2.2.2.2.2.2.1, va_T.moved hvm h.2.2.2.2.2.2.2.2.2.2.2.1, fun C hC => va_AO.moved hvm (h.2.2.2.2.2.2.2.2.2.2.2.2 C hC)⟩
theorem zSt.kept {dA : Nat → ClassId} {A : Nat → Prop} {U : State} {H H1 : Heap} (h : zSt dA A U H) (hq : ∀ a : Nat, a < H.size → ¬ A a → H1[a]? = H[a]?) : zSt dA A U H1 :=
  ⟨h.1.kept hq, h.2.1.kept hq, h.2.2.1, ⟨va_Z.kept h.2.2.2.1.1 hq, va_T.kept h.2.2.2.1.2 hq⟩, h.2.2.2.2.1, h.2.2.2.2.2.1, h.2.2.2.2.2.2.1, ⟨va_Z.kept h.2.2.2.2.2.2.2.1.1 hq, h.2.2.2.2.2.2.2.1.2.kept hq⟩, va_Z.kept h.2.2.2.2.2.2.2.2.1 hq, va_T.kept h.2.2.2.2.2.2.2.2.2.1 hq, va_Z.kept h.2.2.2.2.2.2.2.2.2.2.1 hq, va_T.kept h.2.2.2.2.2.2.2.2.2.2.2.1 hq, h.2.2.2.2.2.2.2.2.2.2.2.2⟩

section ZZ
variable {p : Program} {l : Launch} {e : Env} {R : Room} {s : State} {m : MethodId} {args : Array Value} {below : List Frame} {meth : Method} {c : Code} {A : Nat → Prop} {G : Heap → Prop} {cells slots : Nat} {Q : State → Prop}
/-- from every heap of the world G the machine, at pc with the locals lo (and longs ll) and the stack st, comes to Q -/
def zz (p : Program) (l : Launch) (e : Env) (R : Room) (s : State) (m : MethodId) (args : Array Value) (below : List Frame) (meth : Method) (c : Code) (A : Nat → Prop) (G : Heap → Prop) (cells slots : Nat) (Q : State → Prop) (pc : Nat) (lo : List (Nat × Value)) (ll : List (Nat × Int64)) (st : List Value) : Prop :=
  ∀ (H : Heap) (locs : List Loc) (ls : Array Slot), G H → va_S A s.heap H locs → lv_has ls c.maxLocals (lo ++ ll.map (fun q => (q.1, Value.long q.2))) → (∀ q ∈ lo, q.2.category = 1) → W p l e R s m args below meth c H locs cells slots Q (F0 m pc ls st)
/-- what a method's rows rest on -/
def zc (p : Program) (l : Launch) (s : State) (m : MethodId) (args : Array Value) (meth : Method) (c : Code) (cc : ByteArray) (own : String) (D : va_G) (dA : Nat → ClassId) (A : Nat → Prop) : Prop :=
  p.tables.exec = Jvm.exec ∧ c.code = cc ∧ s.vm.findClass own = some m.cls ∧ (∀ w ∈ gT, w.before args s = true) ∧ meth.locks = false ∧ zK D dA s ∧ (∀ q, s.heap.size ≤ q → A q) ∧ zSt dA A s s.heap ∧ l.stackTraces = false
variable {cc : ByteArray} {own : String} {D : va_G} {dA : Nat → ClassId} {pc : Nat} {lo lo' : List (Nat × Value)} {ll ll' : List (Nat × Int64)} {rest : List Value}
theorem zlk {lo : List (Nat × Value)} {ll : List (Nat × Int64)} {ls : Array Slot} {n i : Nat} {v : Value} (h : lv_has ls n (lo ++ ll.map (fun q => (q.1, Value.long q.2)))) (hk : lo.lookup i = some v) : ls[i]? = some (.val v) := by
  refine h.2.2 (i, v) (List.mem_append_left _ ?_)
  clear h
  induction lo with
  | nil => cases hk
  | cons q t ih =>
    obtain ⟨a, b⟩ := q
    rw [List.lookup_cons] at hk
    by_cases ha : i = a
    · subst ha
      simp at hk
      subst hk
      exact List.mem_cons_self
    · rw [show (i == a) = false by simpa using ha] at hk
      exact List.mem_cons_of_mem _ (ih hk)
theorem zlkl {lo : List (Nat × Value)} {ll : List (Nat × Int64)} {ls : Array Slot} {n i : Nat} {v : Int64} (h : lv_has ls n (lo ++ ll.map (fun q => (q.1, Value.long q.2)))) (hk : ll.lookup i = some v) : ls[i]? = some (.val (.long v)) := by
  refine h.2.2 (i, .long v) (List.mem_append_right _ (List.mem_map.mpr ⟨(i, v), ?_, rfl⟩))
  clear h
  induction ll with
  | nil => cases hk
  | cons q t ih =>
    obtain ⟨a, b⟩ := q
    rw [List.lookup_cons] at hk
    by_cases ha : i = a
    · subst ha
      simp at hk
      subst hk
      exact List.mem_cons_self
    · rw [show (i == a) = false by simpa using ha] at hk
      exact List.mem_cons_of_mem _ (ih hk)
theorem zz.conseq {G' : Heap → Prop} (h : ∀ H, G H → G' H) (k : zz p l e R s m args below meth c A G' cells slots Q pc lo ll rest) : zz p l e R s m args below meth c A G cells slots Q pc lo ll rest := fun H locs ls hG hS hl hc => k H locs ls (h H hG) hS hl hc
theorem zz.ex {α : Type} {G' : α → Heap → Prop} (k : ∀ a, zz p l e R s m args below meth c A (G' a) cells slots Q pc lo ll rest) : zz p l e R s m args below meth c A (fun H => ∃ a, G' a H) cells slots Q pc lo ll rest := fun H locs ls hG hS hl hc => hG.elim fun a h => k a H locs ls h hS hl hc
theorem zz.pre {P0 : Prop} (h : ∀ H, G H → P0) (k : P0 → zz p l e R s m args below meth c A G cells slots Q pc lo ll rest) : zz p l e R s m args below meth c A G cells slots Q pc lo ll rest := fun H locs ls hG hS hl hc => k (h H hG) H locs ls hG hS hl hc
theorem zz.widen {k n : Nat} (h1 : cells ≤ k) (h2 : slots ≤ n) (kk : zz p l e R s m args below meth c A G k n Q pc lo ll rest) : zz p l e R s m args below meth c A G cells slots Q pc lo ll rest := fun H locs ls hG hS hl hc => W.widen h1 h2 (kk H locs ls hG hS hl hc)
theorem zz.los (h : ∀ q ∈ lo', q ∈ lo) (k : zz p l e R s m args below meth c A G cells slots Q pc lo' ll rest) : zz p l e R s m args below meth c A G cells slots Q pc lo ll rest := fun H locs ls hG hS hl hc => k H locs ls hG hS ⟨hl.1, hl.2.1, fun q hq => (List.mem_append.mp hq).elim (fun z => hl.2.2 q (List.mem_append_left _ (h q z))) (fun z => hl.2.2 q (List.mem_append_right _ z))⟩ (fun q hq => hc q (h q hq))
/-- fewer locals, by their numbers -/
def zpick (lo : List (Nat × Value)) (ks : List Nat) : List (Nat × Value) := ks.filterMap (fun k => (lo.lookup k).map (fun v => (k, v)))
theorem zlook_mem {α : Type} {lo : List (Nat × α)} {i : Nat} {v : α} (hk : lo.lookup i = some v) : (i, v) ∈ lo := by
  induction lo with
  | nil => cases hk
  | cons q t ih =>
    obtain ⟨a, b⟩ := q
    rw [List.lookup_cons] at hk
    by_cases ha : i = a
    · subst ha
      simp at hk
      subst hk
      exact List.mem_cons_self
    · rw [show (i == a) = false by simpa using ha] at hk
      exact List.mem_cons_of_mem _ (ih hk)
theorem zz.pick (ks : List Nat) (h : zpick lo ks = lo') (k : zz p l e R s m args below meth c A G cells slots Q pc lo' ll rest) : zz p l e R s m args below meth c A G cells slots Q pc lo ll rest := by
  refine zz.los (lo' := lo') (fun q hq => ?_) k
  rw [← h] at hq
  obtain ⟨i, -, hi⟩ := List.mem_filterMap.mp hq
  cases hv : lo.lookup i with
  | none => rw [hv] at hi; cases hi
  | some v => rw [hv] at hi; cases hi; exact zlook_mem hv
theorem zz.pickl (ks : List Nat) (h : ks.filterMap (fun k => (ll.lookup k).map (fun v => (k, v))) = ll') (k : zz p l e R s m args below meth c A G cells slots Q pc lo ll' rest) : zz p l e R s m args below meth c A G cells slots Q pc lo ll rest := by
  intro H locs ls hG hS hl hc
  refine k H locs ls hG hS ⟨hl.1, hl.2.1, fun q hq => ?_⟩ hc
  rcases List.mem_append.mp hq with hq | hq
  · exact hl.2.2 q (List.mem_append_left _ hq)
  · obtain ⟨z, hz, rfl⟩ := List.mem_map.mp hq
    rw [← h] at hz
    obtain ⟨i, -, hi⟩ := List.mem_filterMap.mp hz
    cases hv : ll.lookup i with
    | none => rw [hv] at hi; cases hi
    | some v => rw [hv] at hi; cases hi; exact hl.2.2 _ (List.mem_append_right _ (List.mem_map.mpr ⟨_, zlook_mem hv, rfl⟩))
def zst (i : Nat) (v : Value) (lo : List (Nat × Value)) : List (Nat × Value) := (i, v) :: lo.filter (fun q => !(q.1 == i))
theorem zst_has {ls : Array Slot} {nL i : Nat} {v : Value} (hc : ∀ q ∈ lo, q.2.category = 1) (hll : ll.all (fun q => !(q.1 == i) && !(q.1 + 1 == i)) = true)
    (h : lv_has ls nL ((i, v) :: (lo ++ ll.map (fun q => (q.1, Value.long q.2))).filter (fun q => !(q.1 == i) && !(q.1 + 1 == i && q.2.category == 2)))) : lv_has ls nL (zst i v lo ++ ll.map (fun q => (q.1, Value.long q.2))) := by
  refine ⟨h.1, h.2.1, fun q hq => h.2.2 q ?_⟩
  rcases List.mem_append.mp hq with hq | hq
  · rcases List.mem_cons.mp hq with rfl | hq
    · exact List.mem_cons_self
    · obtain ⟨h1, h2⟩ := List.mem_filter.mp hq
      refine List.mem_cons_of_mem _ (List.mem_filter.mpr ⟨List.mem_append_left _ h1, ?_⟩)
      rw [hc q h1, h2]
      simp
  · refine List.mem_cons_of_mem _ (List.mem_filter.mpr ⟨List.mem_append_right _ hq, ?_⟩)
    obtain ⟨z, hz, rfl⟩ := List.mem_map.mp hq
    have h3 := List.all_eq_true.mp hll z hz
    simp only [Bool.and_eq_true, Bool.not_eq_true', beq_eq_false_iff_ne, ne_eq] at h3
    simp [h3.1, h3.2]
theorem zst_cat {i : Nat} {v : Value} (hc : ∀ q ∈ lo, q.2.category = 1) (hv : v.category = 1) : ∀ q ∈ zst i v lo, q.2.category = 1 := by
  intro q hq
  rcases List.mem_cons.mp hq with rfl | hq
  · exact hv
  · exact hc q (List.mem_filter.mp hq).1

theorem z_iconst (X : zc p l s m args meth c cc own D dA A) {n : Int} {v : Int32} (hdg : decode cc pc = .ok (.iconst n, 1)) (hv : Int32.ofInt n = v) (k : zz p l e R s m args below meth c A G cells slots Q (pc + 1) lo ll (.int v :: rest)) : zz p l e R s m args below meth c A G cells slots Q pc lo ll (rest) :=
  fun H locs ls hG hS hl hc => lv_iconst X.1 X.2.1 hdg hv (k H locs ls hG hS hl hc)
theorem z_bipush (X : zc p l s m args meth c cc own D dA A) {n : Int} {v : Int32} (hdg : decode cc pc = .ok (.bipush n, 2)) (hv : (Int8.ofInt n).toInt32 = v) (k : zz p l e R s m args below meth c A G cells slots Q (pc + 2) lo ll (.int v :: rest)) : zz p l e R s m args below meth c A G cells slots Q pc lo ll (rest) :=
  fun H locs ls hG hS hl hc => lv_bipush X.1 X.2.1 hdg hv (k H locs ls hG hS hl hc)
theorem z_sipush (X : zc p l s m args meth c cc own D dA A) {n : Int} {v : Int32} (hdg : decode cc pc = .ok (.sipush n, 3)) (hv : (Int16.ofInt n).toInt32 = v) (k : zz p l e R s m args below meth c A G cells slots Q (pc + 3) lo ll (.int v :: rest)) : zz p l e R s m args below meth c A G cells slots Q pc lo ll (rest) :=
  fun H locs ls hG hS hl hc => lv_sipush X.1 X.2.1 hdg hv (k H locs ls hG hS hl hc)
theorem z_ldc (X : zc p l s m args meth c cc own D dA A) {index : Nat} {v : Int32} (hw : Jvm.Cond.constant own index v ∈ gT) (hdg : decode cc pc = .ok (.ldc index, 2)) (k : zz p l e R s m args below meth c A G cells slots Q (pc + 2) lo ll (.int v :: rest)) : zz p l e R s m args below meth c A G cells slots Q pc lo ll (rest) :=
  fun H locs ls hG hS hl hc => lv_ldc X.1 X.2.1 X.2.2.1 (X.2.2.2.1 _ hw) hdg (k H locs ls hG hS hl hc)
theorem z_ldcw (X : zc p l s m args meth c cc own D dA A) {index : Nat} {v : Int32} (hw : Jvm.Cond.constant own index v ∈ gT) (hdg : decode cc pc = .ok (.ldc_w index, 3)) (k : zz p l e R s m args below meth c A G cells slots Q (pc + 3) lo ll (.int v :: rest)) : zz p l e R s m args below meth c A G cells slots Q pc lo ll (rest) :=
  fun H locs ls hG hS hl hc => lv_ldcw X.1 X.2.1 X.2.2.1 (X.2.2.2.1 _ hw) hdg (k H locs ls hG hS hl hc)
theorem z_lconst (X : zc p l s m args meth c cc own D dA A) {n : Fin 2} {v : Int64} (hdg : decode cc pc = .ok (.lconst n, 1)) (hv : Int64.ofNat (n : Nat) = v) (k : zz p l e R s m args below meth c A G cells slots Q (pc + 1) lo ll (.long v :: rest)) : zz p l e R s m args below meth c A G cells slots Q pc lo ll (rest) :=
  fun H locs ls hG hS hl hc => lv_lconst X.1 X.2.1 hdg hv (k H locs ls hG hS hl hc)
theorem z_null (X : zc p l s m args meth c cc own D dA A) (hdg : decode cc pc = .ok (.aconst_null, 1)) (k : zz p l e R s m args below meth c A G cells slots Q (pc + 1) lo ll (.null :: rest)) : zz p l e R s m args below meth c A G cells slots Q pc lo ll (rest) :=
  fun H locs ls hG hS hl hc => lv_null X.1 X.2.1 hdg (k H locs ls hG hS hl hc)
theorem z_iload_n (X : zc p l s m args meth c cc own D dA A) {k0 : Fin 4} {i : Nat} {x : Int32} (hdg : decode cc pc = .ok (.iload_n k0, 1)) (hi : (k0 : Nat) = i) (hk : lo.lookup i = some (.int x)) (k : zz p l e R s m args below meth c A G cells slots Q (pc + 1) lo ll (.int x :: rest)) : zz p l e R s m args below meth c A G cells slots Q pc lo ll (rest) :=
  fun H locs ls hG hS hl hc => lv_iload_n X.1 X.2.1 hdg hi (zlk hl hk) (k H locs ls hG hS hl hc)
theorem z_iload (X : zc p l s m args meth c cc own D dA A) {i : Nat} {x : Int32} (hdg : decode cc pc = .ok (.iload i, 2)) (hk : lo.lookup i = some (.int x)) (k : zz p l e R s m args below meth c A G cells slots Q (pc + 2) lo ll (.int x :: rest)) : zz p l e R s m args below meth c A G cells slots Q pc lo ll (rest) :=
  fun H locs ls hG hS hl hc => lv_iload X.1 X.2.1 hdg (zlk hl hk) (k H locs ls hG hS hl hc)
theorem z_aload_n (X : zc p l s m args meth c cc own D dA A) {k0 : Fin 4} {i : Nat} {x : Nat} (hdg : decode cc pc = .ok (.aload_n k0, 1)) (hi : (k0 : Nat) = i) (hk : lo.lookup i = some (.ref x)) (k : zz p l e R s m args below meth c A G cells slots Q (pc + 1) lo ll (.ref x :: rest)) : zz p l e R s m args below meth c A G cells slots Q pc lo ll (rest) :=
  fun H locs ls hG hS hl hc => lv_aload_n X.1 X.2.1 hdg hi (zlk hl hk) (k H locs ls hG hS hl hc)
theorem z_aload (X : zc p l s m args meth c cc own D dA A) {i : Nat} {x : Nat} (hdg : decode cc pc = .ok (.aload i, 2)) (hk : lo.lookup i = some (.ref x)) (k : zz p l e R s m args below meth c A G cells slots Q (pc + 2) lo ll (.ref x :: rest)) : zz p l e R s m args below meth c A G cells slots Q pc lo ll (rest) :=
  fun H locs ls hG hS hl hc => lv_aload X.1 X.2.1 hdg (zlk hl hk) (k H locs ls hG hS hl hc)
theorem z_lload_n (X : zc p l s m args meth c cc own D dA A) {k0 : Fin 4} {i : Nat} {x : Int64} (hdg : decode cc pc = .ok (.lload_n k0, 1)) (hi : (k0 : Nat) = i) (hk : ll.lookup i = some x) (k : zz p l e R s m args below meth c A G cells slots Q (pc + 1) lo ll (.long x :: rest)) : zz p l e R s m args below meth c A G cells slots Q pc lo ll (rest) :=
  fun H locs ls hG hS hl hc => lv_lload_n X.1 X.2.1 hdg hi (zlkl hl hk) (k H locs ls hG hS hl hc)
theorem z_lload (X : zc p l s m args meth c cc own D dA A) {i : Nat} {x : Int64} (hdg : decode cc pc = .ok (.lload i, 2)) (hk : ll.lookup i = some x) (k : zz p l e R s m args below meth c A G cells slots Q (pc + 2) lo ll (.long x :: rest)) : zz p l e R s m args below meth c A G cells slots Q pc lo ll (rest) :=
  fun H locs ls hG hS hl hc => lv_lload X.1 X.2.1 hdg (zlkl hl hk) (k H locs ls hG hS hl hc)
theorem z_aloadq_n (X : zc p l s m args meth c cc own D dA A) {k0 : Fin 4} {i : Nat} {o : Option Nat} (hdg : decode cc pc = .ok (.aload_n k0, 1)) (hi : (k0 : Nat) = i) (hk : lo.lookup i = some (va_rf o)) (k : zz p l e R s m args below meth c A G cells slots Q (pc + 1) lo ll (va_rf o :: rest)) : zz p l e R s m args below meth c A G cells slots Q pc lo ll rest := by
  intro H locs ls hG hS hl hc
  cases o with
  | none => exact lv_aload_nN X.1 X.2.1 hdg hi (zlk hl hk) (k H locs ls hG hS hl hc)
  | some a => exact lv_aload_n X.1 X.2.1 hdg hi (zlk hl hk) (k H locs ls hG hS hl hc)
theorem z_aloadq (X : zc p l s m args meth c cc own D dA A) {i : Nat} {o : Option Nat} (hdg : decode cc pc = .ok (.aload i, 2)) (hk : lo.lookup i = some (va_rf o)) (k : zz p l e R s m args below meth c A G cells slots Q (pc + 2) lo ll (va_rf o :: rest)) : zz p l e R s m args below meth c A G cells slots Q pc lo ll rest := by
  intro H locs ls hG hS hl hc
  cases o with
  | none => exact lv_aloadN X.1 X.2.1 hdg (zlk hl hk) (k H locs ls hG hS hl hc)
  | some a => exact lv_aload X.1 X.2.1 hdg (zlk hl hk) (k H locs ls hG hS hl hc)
theorem z_istore_n (X : zc p l s m args meth c cc own D dA A) {k0 : Fin 4} {i : Nat} {x : Int32} (hdg : decode cc pc = .ok (.istore_n k0, 1)) (hi : (k0 : Nat) = i) (hn : i < c.maxLocals) (hll : ll.all (fun q => !(q.1 == i) && !(q.1 + 1 == i)) = true) (hlo : zst i (.int x) lo = lo') (k : zz p l e R s m args below meth c A G cells slots Q (pc + 1) lo' ll rest) : zz p l e R s m args below meth c A G cells slots Q pc lo ll (.int x :: rest) := by
  subst hlo
  intro H locs ls hG hS hl hc
  refine lv_istore_n X.1 X.2.1 hdg hi hl hn rfl (fun ls' hl' => ?_)
  exact k H locs ls' hG hS (zst_has hc hll hl') (zst_cat hc rfl)
theorem z_istore (X : zc p l s m args meth c cc own D dA A) {i : Nat} {x : Int32} (hdg : decode cc pc = .ok (.istore i, 2))  (hn : i < c.maxLocals) (hll : ll.all (fun q => !(q.1 == i) && !(q.1 + 1 == i)) = true) (hlo : zst i (.int x) lo = lo') (k : zz p l e R s m args below meth c A G cells slots Q (pc + 2) lo' ll rest) : zz p l e R s m args below meth c A G cells slots Q pc lo ll (.int x :: rest) := by
  subst hlo
  intro H locs ls hG hS hl hc
  refine lv_istore X.1 X.2.1 hdg  hl hn rfl (fun ls' hl' => ?_)
  exact k H locs ls' hG hS (zst_has hc hll hl') (zst_cat hc rfl)
theorem z_astore_n (X : zc p l s m args meth c cc own D dA A) {k0 : Fin 4} {i : Nat} {x : Nat} (hdg : decode cc pc = .ok (.astore_n k0, 1)) (hi : (k0 : Nat) = i) (hn : i < c.maxLocals) (hll : ll.all (fun q => !(q.1 == i) && !(q.1 + 1 == i)) = true) (hlo : zst i (.ref x) lo = lo') (k : zz p l e R s m args below meth c A G cells slots Q (pc + 1) lo' ll rest) : zz p l e R s m args below meth c A G cells slots Q pc lo ll (.ref x :: rest) := by
  subst hlo
  intro H locs ls hG hS hl hc
  refine lv_astore_n X.1 X.2.1 hdg hi hl hn rfl (fun ls' hl' => ?_)
  exact k H locs ls' hG hS (zst_has hc hll hl') (zst_cat hc rfl)
theorem z_astore (X : zc p l s m args meth c cc own D dA A) {i : Nat} {x : Nat} (hdg : decode cc pc = .ok (.astore i, 2))  (hn : i < c.maxLocals) (hll : ll.all (fun q => !(q.1 == i) && !(q.1 + 1 == i)) = true) (hlo : zst i (.ref x) lo = lo') (k : zz p l e R s m args below meth c A G cells slots Q (pc + 2) lo' ll rest) : zz p l e R s m args below meth c A G cells slots Q pc lo ll (.ref x :: rest) := by
  subst hlo
  intro H locs ls hG hS hl hc
  refine lv_astore X.1 X.2.1 hdg  hl hn rfl (fun ls' hl' => ?_)
  exact k H locs ls' hG hS (zst_has hc hll hl') (zst_cat hc rfl)
theorem zrf_cat (o : Option Nat) : (va_rf o).category = 1 := by cases o <;> rfl
theorem z_astoreq_n (X : zc p l s m args meth c cc own D dA A) {k0 : Fin 4} {i : Nat} {o : Option Nat} (hdg : decode cc pc = .ok (.astore_n k0, 1)) (hi : (k0 : Nat) = i) (hn : i < c.maxLocals) (hll : ll.all (fun q => !(q.1 == i) && !(q.1 + 1 == i)) = true) (hlo : zst i (va_rf o) lo = lo') (k : zz p l e R s m args below meth c A G cells slots Q (pc + 1) lo' ll rest) : zz p l e R s m args below meth c A G cells slots Q pc lo ll (va_rf o :: rest) := by
  subst hlo
  intro H locs ls hG hS hl hc
  cases o with
  | none => exact lv_astore_nN X.1 X.2.1 hdg hi hl hn rfl (fun ls' hl' => k H locs ls' hG hS (zst_has hc hll hl') (zst_cat hc rfl))
  | some a => exact lv_astore_n X.1 X.2.1 hdg hi hl hn rfl (fun ls' hl' => k H locs ls' hG hS (zst_has hc hll hl') (zst_cat hc rfl))
theorem z_astoreq (X : zc p l s m args meth c cc own D dA A) {i : Nat} {o : Option Nat} (hdg : decode cc pc = .ok (.astore i, 2)) (hn : i < c.maxLocals) (hll : ll.all (fun q => !(q.1 == i) && !(q.1 + 1 == i)) = true) (hlo : zst i (va_rf o) lo = lo') (k : zz p l e R s m args below meth c A G cells slots Q (pc + 2) lo' ll rest) : zz p l e R s m args below meth c A G cells slots Q pc lo ll (va_rf o :: rest) := by
  subst hlo
  intro H locs ls hG hS hl hc
  cases o with
  | none => exact lv_astoreN X.1 X.2.1 hdg hl hn rfl (fun ls' hl' => k H locs ls' hG hS (zst_has hc hll hl') (zst_cat hc rfl))
  | some a => exact lv_astore X.1 X.2.1 hdg hl hn rfl (fun ls' hl' => k H locs ls' hG hS (zst_has hc hll hl') (zst_cat hc rfl))
theorem z_iinc (X : zc p l s m args meth c cc own D dA A) {i : Nat} {n : Int} {x v : Int32} (hdg : decode cc pc = .ok (.iinc i n, 3)) (hk : lo.lookup i = some (.int x)) (hv : x + Int32.ofInt n = v) (hn : i < c.maxLocals) (hll : ll.all (fun q => !(q.1 == i) && !(q.1 + 1 == i)) = true) (hlo : zst i (.int v) lo = lo') (k : zz p l e R s m args below meth c A G cells slots Q (pc + 3) lo' ll rest) : zz p l e R s m args below meth c A G cells slots Q pc lo ll rest := by
  subst hlo
  intro H locs ls hG hS hl hc
  obtain ⟨j, hj⟩ := List.getElem?_of_mem (List.mem_append_left (ll.map (fun q => (q.1, Value.long q.2))) (zlook_mem hk))
  exact lv_iinc X.1 X.2.1 hdg hl hj hv hn rfl (fun ls' hl' => k H locs ls' hG hS (zst_has hc hll hl') (zst_cat hc rfl))
def zstl (i : Nat) (v : Int64) (ll : List (Nat × Int64)) : List (Nat × Int64) := (i, v) :: ll.filter (fun q => !(q.1 == i) && !(q.1 == i + 1) && !(q.1 + 1 == i))
theorem zstl_has {ls : Array Slot} {nL i : Nat} {v : Int64} (hc : ∀ q ∈ lo, q.2.category = 1) (hlo : lo.filter (fun q => !(q.1 == i) && !(q.1 == i + 1)) = lo')
    (h : lv_has ls nL ((i, Value.long v) :: (lo ++ ll.map (fun q => (q.1, Value.long q.2))).filter (fun q => !(q.1 == i) && (!(q.1 == i + 1) && !(q.1 + 1 == i && q.2.category == 2))))) : lv_has ls nL (lo' ++ (zstl i v ll).map (fun q => (q.1, Value.long q.2))) := by
  subst hlo
  refine ⟨h.1, h.2.1, fun q hq => h.2.2 q ?_⟩
  rcases List.mem_append.mp hq with hq | hq
  · obtain ⟨h1, h2⟩ := List.mem_filter.mp hq
    refine List.mem_cons_of_mem _ (List.mem_filter.mpr ⟨List.mem_append_left _ h1, ?_⟩)
    rw [hc q h1]
    simp at h2 ⊢
    exact h2
  · obtain ⟨z, hz, rfl⟩ := List.mem_map.mp hq
    rcases List.mem_cons.mp hz with rfl | hz
    · exact List.mem_cons_self
    · obtain ⟨h1, h2⟩ := List.mem_filter.mp hz
      refine List.mem_cons_of_mem _ (List.mem_filter.mpr ⟨List.mem_append_right _ (List.mem_map.mpr ⟨z, h1, rfl⟩), ?_⟩)
      simp at h2 ⊢
      exact ⟨h2.1.1, h2.1.2, Or.inl h2.2⟩
theorem z_lstore_n (X : zc p l s m args meth c cc own D dA A) {k0 : Fin 4} {i : Nat} {x : Int64} (hdg : decode cc pc = .ok (.lstore_n k0, 1)) (hi : (k0 : Nat) = i) (hn : i + 1 < c.maxLocals) (hlo : lo.filter (fun q => !(q.1 == i) && !(q.1 == i + 1)) = lo') (hll : zstl i x ll = ll') (k : zz p l e R s m args below meth c A G cells slots Q (pc + 1) lo' ll' rest) : zz p l e R s m args below meth c A G cells slots Q pc lo ll (.long x :: rest) := by
  subst hll
  intro H locs ls hG hS hl hc
  refine lv_lstore_n X.1 X.2.1 hdg hi hl hn rfl (fun ls' hl' => k H locs ls' hG hS (zstl_has hc hlo hl') (fun q hq => hc q ?_))
  rw [← hlo] at hq
  exact (List.mem_filter.mp hq).1
theorem z_lstore (X : zc p l s m args meth c cc own D dA A) {i : Nat} {x : Int64} (hdg : decode cc pc = .ok (.lstore i, 2)) (hn : i + 1 < c.maxLocals) (hlo : lo.filter (fun q => !(q.1 == i) && !(q.1 == i + 1)) = lo') (hll : zstl i x ll = ll') (k : zz p l e R s m args below meth c A G cells slots Q (pc + 2) lo' ll' rest) : zz p l e R s m args below meth c A G cells slots Q pc lo ll (.long x :: rest) := by
  subst hll
  intro H locs ls hG hS hl hc
  refine lv_lstore X.1 X.2.1 hdg hl hn rfl (fun ls' hl' => k H locs ls' hG hS (zstl_has hc hlo hl') (fun q hq => hc q ?_))
  rw [← hlo] at hq
  exact (List.mem_filter.mp hq).1
theorem z_iadd (X : zc p l s m args meth c cc own D dA A) {x y : Int32} (hdg : decode cc pc = .ok (.iadd, 1)) (k : zz p l e R s m args below meth c A G cells slots Q (pc + 1) lo ll (.int (x + y) :: rest)) : zz p l e R s m args below meth c A G cells slots Q pc lo ll (.int y :: .int x :: rest) :=
  fun H locs ls hG hS hl hc => lv_iadd X.1 X.2.1 hdg (k H locs ls hG hS hl hc)
theorem z_isub (X : zc p l s m args meth c cc own D dA A) {x y : Int32} (hdg : decode cc pc = .ok (.isub, 1)) (k : zz p l e R s m args below meth c A G cells slots Q (pc + 1) lo ll (.int (x - y) :: rest)) : zz p l e R s m args below meth c A G cells slots Q pc lo ll (.int y :: .int x :: rest) :=
  fun H locs ls hG hS hl hc => lv_isub X.1 X.2.1 hdg (k H locs ls hG hS hl hc)
theorem z_imul (X : zc p l s m args meth c cc own D dA A) {x y : Int32} (hdg : decode cc pc = .ok (.imul, 1)) (k : zz p l e R s m args below meth c A G cells slots Q (pc + 1) lo ll (.int (x * y) :: rest)) : zz p l e R s m args below meth c A G cells slots Q pc lo ll (.int y :: .int x :: rest) :=
  fun H locs ls hG hS hl hc => lv_imul X.1 X.2.1 hdg (k H locs ls hG hS hl hc)
theorem z_iand (X : zc p l s m args meth c cc own D dA A) {x y : Int32} (hdg : decode cc pc = .ok (.iand, 1)) (k : zz p l e R s m args below meth c A G cells slots Q (pc + 1) lo ll (.int (x &&& y) :: rest)) : zz p l e R s m args below meth c A G cells slots Q pc lo ll (.int y :: .int x :: rest) :=
  fun H locs ls hG hS hl hc => lv_iand X.1 X.2.1 hdg (k H locs ls hG hS hl hc)
theorem z_ior (X : zc p l s m args meth c cc own D dA A) {x y : Int32} (hdg : decode cc pc = .ok (.ior, 1)) (k : zz p l e R s m args below meth c A G cells slots Q (pc + 1) lo ll (.int (x ||| y) :: rest)) : zz p l e R s m args below meth c A G cells slots Q pc lo ll (.int y :: .int x :: rest) :=
  fun H locs ls hG hS hl hc => lv_ior X.1 X.2.1 hdg (k H locs ls hG hS hl hc)
theorem z_ixor (X : zc p l s m args meth c cc own D dA A) {x y : Int32} (hdg : decode cc pc = .ok (.ixor, 1)) (k : zz p l e R s m args below meth c A G cells slots Q (pc + 1) lo ll (.int (x ^^^ y) :: rest)) : zz p l e R s m args below meth c A G cells slots Q pc lo ll (.int y :: .int x :: rest) :=
  fun H locs ls hG hS hl hc => lv_ixor X.1 X.2.1 hdg (k H locs ls hG hS hl hc)
theorem z_ishl (X : zc p l s m args meth c cc own D dA A) {x y : Int32} (hdg : decode cc pc = .ok (.ishl, 1)) (k : zz p l e R s m args below meth c A G cells slots Q (pc + 1) lo ll (.int (x <<< (y &&& 31)) :: rest)) : zz p l e R s m args below meth c A G cells slots Q pc lo ll (.int y :: .int x :: rest) :=
  fun H locs ls hG hS hl hc => lv_ishl X.1 X.2.1 hdg (k H locs ls hG hS hl hc)
theorem z_ishr (X : zc p l s m args meth c cc own D dA A) {x y : Int32} (hdg : decode cc pc = .ok (.ishr, 1)) (k : zz p l e R s m args below meth c A G cells slots Q (pc + 1) lo ll (.int (x >>> (y &&& 31)) :: rest)) : zz p l e R s m args below meth c A G cells slots Q pc lo ll (.int y :: .int x :: rest) :=
  fun H locs ls hG hS hl hc => lv_ishr X.1 X.2.1 hdg (k H locs ls hG hS hl hc)
theorem z_iushr (X : zc p l s m args meth c cc own D dA A) {x y : Int32} (hdg : decode cc pc = .ok (.iushr, 1)) (k : zz p l e R s m args below meth c A G cells slots Q (pc + 1) lo ll (.int ((x.toUInt32 >>> (y.toUInt32 &&& Int32.toUInt32 31)).toInt32) :: rest)) : zz p l e R s m args below meth c A G cells slots Q pc lo ll (.int y :: .int x :: rest) :=
  fun H locs ls hG hS hl hc => lv_iushr X.1 X.2.1 hdg rfl (k H locs ls hG hS hl hc)
theorem z_idiv (X : zc p l s m args meth c cc own D dA A) {x y : Int32} (hdg : decode cc pc = .ok (.idiv, 1)) (hne : ¬ y = 0) (k : zz p l e R s m args below meth c A G cells slots Q (pc + 1) lo ll (.int (x / y) :: rest)) : zz p l e R s m args below meth c A G cells slots Q pc lo ll (.int y :: .int x :: rest) :=
  fun H locs ls hG hS hl hc => lv_idiv X.1 X.2.1 hdg hne (k H locs ls hG hS hl hc)
theorem z_irem (X : zc p l s m args meth c cc own D dA A) {x y : Int32} (hdg : decode cc pc = .ok (.irem, 1)) (hne : ¬ y = 0) (k : zz p l e R s m args below meth c A G cells slots Q (pc + 1) lo ll (.int (x - x / y * y) :: rest)) : zz p l e R s m args below meth c A G cells slots Q pc lo ll (.int y :: .int x :: rest) :=
  fun H locs ls hG hS hl hc => lv_irem X.1 X.2.1 hdg hne (k H locs ls hG hS hl hc)
theorem z_i2b (X : zc p l s m args meth c cc own D dA A) {x : Int32} (hdg : decode cc pc = .ok (.i2b, 1)) (k : zz p l e R s m args below meth c A G cells slots Q (pc + 1) lo ll (.int x.toInt8.toInt32 :: rest)) : zz p l e R s m args below meth c A G cells slots Q pc lo ll (.int x :: rest) :=
  fun H locs ls hG hS hl hc => lv_i2b X.1 X.2.1 hdg rfl (k H locs ls hG hS hl hc)
theorem z_i2l (X : zc p l s m args meth c cc own D dA A) {x : Int32} (hdg : decode cc pc = .ok (.i2l, 1)) (k : zz p l e R s m args below meth c A G cells slots Q (pc + 1) lo ll (.long x.toInt64 :: rest)) : zz p l e R s m args below meth c A G cells slots Q pc lo ll (.int x :: rest) :=
  fun H locs ls hG hS hl hc => lv_i2l X.1 X.2.1 hdg rfl (k H locs ls hG hS hl hc)
theorem z_l2i (X : zc p l s m args meth c cc own D dA A) {x : Int64} (hdg : decode cc pc = .ok (.l2i, 1)) (k : zz p l e R s m args below meth c A G cells slots Q (pc + 1) lo ll (.int x.toInt32 :: rest)) : zz p l e R s m args below meth c A G cells slots Q pc lo ll (.long x :: rest) :=
  fun H locs ls hG hS hl hc => lv_l2i X.1 X.2.1 hdg rfl (k H locs ls hG hS hl hc)
theorem z_ladd (X : zc p l s m args meth c cc own D dA A) {x y : Int64} (hdg : decode cc pc = .ok (.ladd, 1)) (k : zz p l e R s m args below meth c A G cells slots Q (pc + 1) lo ll (.long (x + y) :: rest)) : zz p l e R s m args below meth c A G cells slots Q pc lo ll (.long y :: .long x :: rest) :=
  fun H locs ls hG hS hl hc => lv_ladd X.1 X.2.1 hdg (k H locs ls hG hS hl hc)
theorem z_lor (X : zc p l s m args meth c cc own D dA A) {x y : Int64} (hdg : decode cc pc = .ok (.lor, 1)) (k : zz p l e R s m args below meth c A G cells slots Q (pc + 1) lo ll (.long (x ||| y) :: rest)) : zz p l e R s m args below meth c A G cells slots Q pc lo ll (.long y :: .long x :: rest) :=
  fun H locs ls hG hS hl hc => lv_lor X.1 X.2.1 hdg (k H locs ls hG hS hl hc)
theorem z_lshl (X : zc p l s m args meth c cc own D dA A) {x : Int64} {y : Int32} (hdg : decode cc pc = .ok (.lshl, 1)) (k : zz p l e R s m args below meth c A G cells slots Q (pc + 1) lo ll (.long (x <<< (y.toInt64 &&& 63)) :: rest)) : zz p l e R s m args below meth c A G cells slots Q pc lo ll (.int y :: .long x :: rest) :=
  fun H locs ls hG hS hl hc => lv_lshl X.1 X.2.1 hdg rfl (k H locs ls hG hS hl hc)
theorem z_lshr (X : zc p l s m args meth c cc own D dA A) {x : Int64} {y : Int32} (hdg : decode cc pc = .ok (.lshr, 1)) (k : zz p l e R s m args below meth c A G cells slots Q (pc + 1) lo ll (.long (x >>> (y.toInt64 &&& 63)) :: rest)) : zz p l e R s m args below meth c A G cells slots Q pc lo ll (.int y :: .long x :: rest) :=
  fun H locs ls hG hS hl hc => lv_lshr X.1 X.2.1 hdg rfl (k H locs ls hG hS hl hc)
theorem z_lushr (X : zc p l s m args meth c cc own D dA A) {x : Int64} {y : Int32} (hdg : decode cc pc = .ok (.lushr, 1)) (k : zz p l e R s m args below meth c A G cells slots Q (pc + 1) lo ll (.long ((x.toUInt64 >>> (y.toInt64.toUInt64 &&& Int64.toUInt64 63)).toInt64) :: rest)) : zz p l e R s m args below meth c A G cells slots Q pc lo ll (.int y :: .long x :: rest) :=
  fun H locs ls hG hS hl hc => lv_lushr X.1 X.2.1 hdg rfl (k H locs ls hG hS hl hc)
theorem z_lcmp (X : zc p l s m args meth c cc own D dA A) {x y : Int64} (hdg : decode cc pc = .ok (.lcmp, 1)) (k : zz p l e R s m args below meth c A G cells slots Q (pc + 1) lo ll (.int (lg_cmp x y) :: rest)) : zz p l e R s m args below meth c A G cells slots Q pc lo ll (.long y :: .long x :: rest) :=
  fun H locs ls hG hS hl hc => W.lcmp X.1 X.2.1 hdg (k H locs ls hG hS hl hc)
theorem z_dup (X : zc p l s m args meth c cc own D dA A) {v : Value} (hdg : decode cc pc = .ok (.dup, 1)) (hv : v.category = 1) (k : zz p l e R s m args below meth c A G cells slots Q (pc + 1) lo ll (v :: v :: rest)) : zz p l e R s m args below meth c A G cells slots Q pc lo ll (v :: rest) :=
  fun H locs ls hG hS hl hc => lv_dup X.1 X.2.1 hdg hv (k H locs ls hG hS hl hc)
theorem z_pop (X : zc p l s m args meth c cc own D dA A) {v : Value} (hdg : decode cc pc = .ok (.pop, 1)) (hv : v.category = 1) (k : zz p l e R s m args below meth c A G cells slots Q (pc + 1) lo ll (rest)) : zz p l e R s m args below meth c A G cells slots Q pc lo ll (v :: rest) :=
  fun H locs ls hG hS hl hc => lv_pop X.1 X.2.1 hdg hv (k H locs ls hG hS hl hc)
theorem z_dup_x1 (X : zc p l s m args meth c cc own D dA A) {v w : Value} (hdg : decode cc pc = .ok (.dup_x1, 1)) (hv : v.category = 1) (hw : w.category = 1) (k : zz p l e R s m args below meth c A G cells slots Q (pc + 1) lo ll (v :: w :: v :: rest)) : zz p l e R s m args below meth c A G cells slots Q pc lo ll (v :: w :: rest) :=
  fun H locs ls hG hS hl hc => lv_dup_x1 X.1 X.2.1 hdg hv hw (k H locs ls hG hS hl hc)
theorem z_dup2 (X : zc p l s m args meth c cc own D dA A) {v w : Value} (hdg : decode cc pc = .ok (.dup2, 1)) (hv : v.category = 1) (hw : w.category = 1) (k : zz p l e R s m args below meth c A G cells slots Q (pc + 1) lo ll (v :: w :: v :: w :: rest)) : zz p l e R s m args below meth c A G cells slots Q pc lo ll (v :: w :: rest) :=
  fun H locs ls hG hS hl hc => lv_dup2_11 X.1 X.2.1 hdg hv hw (k H locs ls hG hS hl hc)
theorem z_goto (X : zc p l s m args meth c cc own D dA A) {off : Int} {tgt : Nat} (hdg : decode cc pc = .ok (.goto off, 3)) (ht : (pc : Int) + off = (tgt : Int)) (k : zz p l e R s m args below meth c A G cells slots Q tgt lo ll (rest)) : zz p l e R s m args below meth c A G cells slots Q pc lo ll (rest) :=
  fun H locs ls hG hS hl hc => lv_goto X.1 X.2.1 hdg ht (k H locs ls hG hS hl hc)
theorem z_if_eq (X : zc p l s m args meth c cc own D dA A) {x : Int32} {off : Int} {tgt : Nat} (hdg : decode cc pc = .ok (.ifCond .eq off, 3)) (ht : (pc : Int) + off = (tgt : Int)) (kt : x = 0 → zz p l e R s m args below meth c A G cells slots Q tgt lo ll rest) (kf : ¬ x = 0 → zz p l e R s m args below meth c A G cells slots Q (pc + 3) lo ll rest) : zz p l e R s m args below meth c A G cells slots Q pc lo ll (.int x :: rest) :=
  fun H locs ls hG hS hl hc => lv_if_eq X.1 X.2.1 hdg ht (fun q => kt q H locs ls hG hS hl hc) (fun q => kf q H locs ls hG hS hl hc)
theorem z_if_ne (X : zc p l s m args meth c cc own D dA A) {x : Int32} {off : Int} {tgt : Nat} (hdg : decode cc pc = .ok (.ifCond .ne off, 3)) (ht : (pc : Int) + off = (tgt : Int)) (kf : x = 0 → zz p l e R s m args below meth c A G cells slots Q (pc + 3) lo ll rest) (kt : ¬ x = 0 → zz p l e R s m args below meth c A G cells slots Q tgt lo ll rest) : zz p l e R s m args below meth c A G cells slots Q pc lo ll (.int x :: rest) :=
  fun H locs ls hG hS hl hc => lv_if_ne X.1 X.2.1 hdg ht (fun q => kt q H locs ls hG hS hl hc) (fun q => kf q H locs ls hG hS hl hc)
theorem z_if_lt (X : zc p l s m args meth c cc own D dA A) {x : Int32} {off : Int} {tgt : Nat} (hdg : decode cc pc = .ok (.ifCond .lt off, 3)) (ht : (pc : Int) + off = (tgt : Int)) (kt : x < 0 → zz p l e R s m args below meth c A G cells slots Q tgt lo ll rest) (kf : ¬ x < 0 → zz p l e R s m args below meth c A G cells slots Q (pc + 3) lo ll rest) : zz p l e R s m args below meth c A G cells slots Q pc lo ll (.int x :: rest) :=
  fun H locs ls hG hS hl hc => lv_if_lt X.1 X.2.1 hdg ht (fun q => kt q H locs ls hG hS hl hc) (fun q => kf q H locs ls hG hS hl hc)
theorem z_if_ge (X : zc p l s m args meth c cc own D dA A) {x : Int32} {off : Int} {tgt : Nat} (hdg : decode cc pc = .ok (.ifCond .ge off, 3)) (ht : (pc : Int) + off = (tgt : Int)) (kt : 0 ≤ x → zz p l e R s m args below meth c A G cells slots Q tgt lo ll rest) (kf : ¬ 0 ≤ x → zz p l e R s m args below meth c A G cells slots Q (pc + 3) lo ll rest) : zz p l e R s m args below meth c A G cells slots Q pc lo ll (.int x :: rest) :=
  fun H locs ls hG hS hl hc => lv_if_ge X.1 X.2.1 hdg ht (fun q => kt q H locs ls hG hS hl hc) (fun q => kf q H locs ls hG hS hl hc)
theorem z_if_gt (X : zc p l s m args meth c cc own D dA A) {x : Int32} {off : Int} {tgt : Nat} (hdg : decode cc pc = .ok (.ifCond .gt off, 3)) (ht : (pc : Int) + off = (tgt : Int)) (kt : 0 < x → zz p l e R s m args below meth c A G cells slots Q tgt lo ll rest) (kf : ¬ 0 < x → zz p l e R s m args below meth c A G cells slots Q (pc + 3) lo ll rest) : zz p l e R s m args below meth c A G cells slots Q pc lo ll (.int x :: rest) :=
  fun H locs ls hG hS hl hc => lv_if_gt X.1 X.2.1 hdg ht (fun q => kt q H locs ls hG hS hl hc) (fun q => kf q H locs ls hG hS hl hc)
theorem z_if_le (X : zc p l s m args meth c cc own D dA A) {x : Int32} {off : Int} {tgt : Nat} (hdg : decode cc pc = .ok (.ifCond .le off, 3)) (ht : (pc : Int) + off = (tgt : Int)) (kt : x ≤ 0 → zz p l e R s m args below meth c A G cells slots Q tgt lo ll rest) (kf : ¬ x ≤ 0 → zz p l e R s m args below meth c A G cells slots Q (pc + 3) lo ll rest) : zz p l e R s m args below meth c A G cells slots Q pc lo ll (.int x :: rest) :=
  fun H locs ls hG hS hl hc => lv_if_le X.1 X.2.1 hdg ht (fun q => kt q H locs ls hG hS hl hc) (fun q => kf q H locs ls hG hS hl hc)
theorem z_icmp_eq (X : zc p l s m args meth c cc own D dA A) {x y : Int32} {off : Int} {tgt : Nat} (hdg : decode cc pc = .ok (.if_icmp .eq off, 3)) (ht : (pc : Int) + off = (tgt : Int)) (kt : x = y → zz p l e R s m args below meth c A G cells slots Q tgt lo ll rest) (kf : ¬ x = y → zz p l e R s m args below meth c A G cells slots Q (pc + 3) lo ll rest) : zz p l e R s m args below meth c A G cells slots Q pc lo ll (.int y :: .int x :: rest) :=
  fun H locs ls hG hS hl hc => lv_icmp_eq X.1 X.2.1 hdg ht (fun q => kt q H locs ls hG hS hl hc) (fun q => kf q H locs ls hG hS hl hc)
theorem z_icmp_ne (X : zc p l s m args meth c cc own D dA A) {x y : Int32} {off : Int} {tgt : Nat} (hdg : decode cc pc = .ok (.if_icmp .ne off, 3)) (ht : (pc : Int) + off = (tgt : Int)) (kf : x = y → zz p l e R s m args below meth c A G cells slots Q (pc + 3) lo ll rest) (kt : ¬ x = y → zz p l e R s m args below meth c A G cells slots Q tgt lo ll rest) : zz p l e R s m args below meth c A G cells slots Q pc lo ll (.int y :: .int x :: rest) :=
  fun H locs ls hG hS hl hc => lv_icmp_ne X.1 X.2.1 hdg ht (fun q => kt q H locs ls hG hS hl hc) (fun q => kf q H locs ls hG hS hl hc)
theorem z_icmp_lt (X : zc p l s m args meth c cc own D dA A) {x y : Int32} {off : Int} {tgt : Nat} (hdg : decode cc pc = .ok (.if_icmp .lt off, 3)) (ht : (pc : Int) + off = (tgt : Int)) (kt : x < y → zz p l e R s m args below meth c A G cells slots Q tgt lo ll rest) (kf : ¬ x < y → zz p l e R s m args below meth c A G cells slots Q (pc + 3) lo ll rest) : zz p l e R s m args below meth c A G cells slots Q pc lo ll (.int y :: .int x :: rest) :=
  fun H locs ls hG hS hl hc => lv_icmp_lt X.1 X.2.1 hdg ht (fun q => kt q H locs ls hG hS hl hc) (fun q => kf q H locs ls hG hS hl hc)
theorem z_icmp_ge (X : zc p l s m args meth c cc own D dA A) {x y : Int32} {off : Int} {tgt : Nat} (hdg : decode cc pc = .ok (.if_icmp .ge off, 3)) (ht : (pc : Int) + off = (tgt : Int)) (kt : y ≤ x → zz p l e R s m args below meth c A G cells slots Q tgt lo ll rest) (kf : ¬ y ≤ x → zz p l e R s m args below meth c A G cells slots Q (pc + 3) lo ll rest) : zz p l e R s m args below meth c A G cells slots Q pc lo ll (.int y :: .int x :: rest) :=
  fun H locs ls hG hS hl hc => lv_icmp_ge X.1 X.2.1 hdg ht (fun q => kt q H locs ls hG hS hl hc) (fun q => kf q H locs ls hG hS hl hc)
theorem z_icmp_gt (X : zc p l s m args meth c cc own D dA A) {x y : Int32} {off : Int} {tgt : Nat} (hdg : decode cc pc = .ok (.if_icmp .gt off, 3)) (ht : (pc : Int) + off = (tgt : Int)) (kt : y < x → zz p l e R s m args below meth c A G cells slots Q tgt lo ll rest) (kf : ¬ y < x → zz p l e R s m args below meth c A G cells slots Q (pc + 3) lo ll rest) : zz p l e R s m args below meth c A G cells slots Q pc lo ll (.int y :: .int x :: rest) :=
  fun H locs ls hG hS hl hc => lv_icmp_gt X.1 X.2.1 hdg ht (fun q => kt q H locs ls hG hS hl hc) (fun q => kf q H locs ls hG hS hl hc)
theorem z_icmp_le (X : zc p l s m args meth c cc own D dA A) {x y : Int32} {off : Int} {tgt : Nat} (hdg : decode cc pc = .ok (.if_icmp .le off, 3)) (ht : (pc : Int) + off = (tgt : Int)) (kt : x ≤ y → zz p l e R s m args below meth c A G cells slots Q tgt lo ll rest) (kf : ¬ x ≤ y → zz p l e R s m args below meth c A G cells slots Q (pc + 3) lo ll rest) : zz p l e R s m args below meth c A G cells slots Q pc lo ll (.int y :: .int x :: rest) :=
  fun H locs ls hG hS hl hc => lv_icmp_le X.1 X.2.1 hdg ht (fun q => kt q H locs ls hG hS hl hc) (fun q => kf q H locs ls hG hS hl hc)
theorem z_acmp_eq (X : zc p l s m args meth c cc own D dA A) {x y : Option Nat} {off : Int} {tgt : Nat} (hdg : decode cc pc = .ok (.if_acmp .eq off, 3)) (ht : (pc : Int) + off = (tgt : Int)) (kt : x = y → zz p l e R s m args below meth c A G cells slots Q tgt lo ll rest) (kf : ¬ x = y → zz p l e R s m args below meth c A G cells slots Q (pc + 3) lo ll rest) : zz p l e R s m args below meth c A G cells slots Q pc lo ll (va_rf y :: va_rf x :: rest) :=
  fun H locs ls hG hS hl hc => lv_acmp_eq X.1 X.2.1 hdg ht (fun q => kt q H locs ls hG hS hl hc) (fun q => kf q H locs ls hG hS hl hc)
theorem z_acmp_ne (X : zc p l s m args meth c cc own D dA A) {x y : Option Nat} {off : Int} {tgt : Nat} (hdg : decode cc pc = .ok (.if_acmp .ne off, 3)) (ht : (pc : Int) + off = (tgt : Int)) (kf : x = y → zz p l e R s m args below meth c A G cells slots Q (pc + 3) lo ll rest) (kt : ¬ x = y → zz p l e R s m args below meth c A G cells slots Q tgt lo ll rest) : zz p l e R s m args below meth c A G cells slots Q pc lo ll (va_rf y :: va_rf x :: rest) :=
  fun H locs ls hG hS hl hc => lv_acmp_ne X.1 X.2.1 hdg ht (fun q => kt q H locs ls hG hS hl hc) (fun q => kf q H locs ls hG hS hl hc)
theorem z_ifnull (X : zc p l s m args meth c cc own D dA A) {o : Option Nat} {off : Int} {tgt : Nat} (hdg : decode cc pc = .ok (.ifnull off, 3)) (ht : (pc : Int) + off = (tgt : Int)) (kt : o = none → zz p l e R s m args below meth c A G cells slots Q tgt lo ll rest) (kf : ∀ a, o = some a → zz p l e R s m args below meth c A G cells slots Q (pc + 3) lo ll rest) : zz p l e R s m args below meth c A G cells slots Q pc lo ll (va_rf o :: rest) := by
  intro H locs ls hG hS hl hc
  cases o with
  | none => exact lv_ifnullN X.1 X.2.1 hdg ht (kt rfl H locs ls hG hS hl hc)
  | some a => exact lv_ifnull X.1 X.2.1 hdg (kf a rfl H locs ls hG hS hl hc)
theorem z_ifnonnull (X : zc p l s m args meth c cc own D dA A) {o : Option Nat} {off : Int} {tgt : Nat} (hdg : decode cc pc = .ok (.ifnonnull off, 3)) (ht : (pc : Int) + off = (tgt : Int)) (kf : o = none → zz p l e R s m args below meth c A G cells slots Q (pc + 3) lo ll rest) (kt : ∀ a, o = some a → zz p l e R s m args below meth c A G cells slots Q tgt lo ll rest) : zz p l e R s m args below meth c A G cells slots Q pc lo ll (va_rf o :: rest) := by
  intro H locs ls hG hS hl hc
  cases o with
  | none => exact lv_ifnonnullN X.1 X.2.1 hdg (kf rfl H locs ls hG hS hl hc)
  | some a => exact lv_ifnonnull X.1 X.2.1 hdg ht (kt a rfl H locs ls hG hS hl hc)
theorem z_tableIn (X : zc p l s m args meth c cc own D dA A) {dflt lo9 hi9 : Int} {offs : Array Int} {len : Nat} {x : Int32} {off : Int} {tgt : Nat} (hdg : decode cc pc = .ok (.tableswitch dflt lo9 hi9 offs, len)) (h1 : ¬ x.toInt < lo9) (h2 : ¬ hi9 < x.toInt) (ho : offs[(x.toInt - lo9).toNat]? = some off) (ht : (pc : Int) + off = (tgt : Int)) (k : zz p l e R s m args below meth c A G cells slots Q tgt lo ll (rest)) : zz p l e R s m args below meth c A G cells slots Q pc lo ll (.int x :: rest) :=
  fun H locs ls hG hS hl hc => lv_tableIn X.1 X.2.1 hdg h1 h2 ho ht (k H locs ls hG hS hl hc)
theorem z_tableOut (X : zc p l s m args meth c cc own D dA A) {dflt lo9 hi9 : Int} {offs : Array Int} {len : Nat} {x : Int32} {tgt : Nat} (hdg : decode cc pc = .ok (.tableswitch dflt lo9 hi9 offs, len)) (h : x.toInt < lo9 ∨ hi9 < x.toInt) (ht : (pc : Int) + dflt = (tgt : Int)) (k : zz p l e R s m args below meth c A G cells slots Q tgt lo ll (rest)) : zz p l e R s m args below meth c A G cells slots Q pc lo ll (.int x :: rest) :=
  fun H locs ls hG hS hl hc => lv_tableOut X.1 X.2.1 hdg h ht (k H locs ls hG hS hl hc)
theorem z_out3 {x : Int32} (h1 : ¬ x = 1) (h2 : ¬ x = 2) (h3 : ¬ x = 3) : x.toInt < 1 ∨ 3 < x.toInt := by
  by_cases h : x.toInt < 1
  · exact Or.inl h
  · by_cases h9 : 3 < x.toInt
    · exact Or.inr h9
    · exfalso
      have : x.toInt = 1 ∨ x.toInt = 2 ∨ x.toInt = 3 := by omega
      rcases this with e | e | e
      · exact h1 (Int32.toInt_inj.mp e)
      · exact h2 (Int32.toInt_inj.mp e)
      · exact h3 (Int32.toInt_inj.mp e)
theorem z_iret (X : zc p l s m args meth c cc own D dA A) {Qc : Array Value → State → Outcome → State → Prop} {v : Int32} {ty : FieldType} (hr : meth.sig.returnType = some ty) (hn : narrow ty (.int v) = .int v) (hq : ∀ t : State, G t.heap → va_F A s t → s.WarmedH t.vm → Qc args s (.returned (some (.int v))) t) (hdg : decode cc pc = .ok (.ireturn, 1)) : zz p l e R s m args below meth c A G cells slots (MQ below Qc args s cells slots A) pc lo ll [.int v] :=
  fun H locs ls hG hS hl hc => W.zret X.1 X.2.1 hr hn (fun t ht hW => hq t (by rw [ht]; exact hG) (hS.F ht) hW) hS.2.2 hdg X.2.2.2.2.1
theorem z_vret (X : zc p l s m args meth c cc own D dA A) {Qc : Array Value → State → Outcome → State → Prop} (hr : meth.sig.returnType = none) (hq : ∀ t : State, G t.heap → va_F A s t → s.WarmedH t.vm → Qc args s (.returned none) t) (hdg : decode cc pc = .ok (.return_, 1)) : zz p l e R s m args below meth c A G cells slots (MQ below Qc args s cells slots A) pc lo ll [] :=
  fun H locs ls hG hS hl hc => W.vret X.1 X.2.1 hr (fun t ht hW => hq t (by rw [ht]; exact hG) (hS.F ht) hW) hS.2.2 hdg X.2.2.2.2.1
theorem z_aret (X : zc p l s m args meth c cc own D dA A) {Qc : Array Value → State → Outcome → State → Prop} {o : Option Nat} {rt : FieldType} (hr : meth.sig.returnType = some rt) (hrt : (∃ n, rt = .object n) ∨ ∃ t, rt = .array t) (hq : ∀ t : State, G t.heap → va_F A s t → s.WarmedH t.vm → Qc args s (.returned (some (va_rf o))) t) (hdg : decode cc pc = .ok (.areturn, 1)) : zz p l e R s m args below meth c A G cells slots (MQ below Qc args s cells slots A) pc lo ll [va_rf o] :=
  fun H locs ls hG hS hl hc => W.aret X.1 X.2.1 hr hrt (by cases o with | none => exact Or.inl rfl | some a => exact Or.inr ⟨a, rfl⟩) (fun t ht hW => hq t (by rw [ht]; exact hG) (hS.F ht) hW) hS.2.2 hdg X.2.2.2.2.1
/-- the world of a contract's start -/
def zB (D : va_G) (dA : Nat → ClassId) (A : Nat → Prop) (n : Nat) (G : Heap → Prop) (U : State) : Prop := n ≤ U.heap.size ∧ zK D dA U ∧ zSt dA A U U.heap ∧ G U.heap
theorem zR_moved {k : Nat} {tx : String} {a : Nat} {u U : State} (hvm : u.WarmedH U.vm) (h : vk_R "MeshBiller" k tx a u) : vk_R "MeshBiller" k tx a U := vk_R.warm hvm h
theorem zB_blind {av : List Value} {n : Nat} : FrameBlind (va_Pc av (zB D dA A n G)) := by
  intro a U g mk h
  obtain ⟨h0, h1, h2, h3, h4⟩ := h
  exact ⟨h0, h1, va_K.moved (u := U) (U := U.calling g mk a) (Vm.Alike.refl U.vm) h2, h3.moved (Vm.Alike.refl U.vm) (fun k tx a h => zR_moved (State.WarmedH.refl U) h) (fun _ _ _ _ h => va_Nw.same rfl rfl h), h4⟩
theorem zB_at {H : Heap} {locs : List Loc} (X : zc p l s m args meth c cc own D dA A) (hG : G H) (hS : va_S A s.heap H locs) : ∀ U : State, U.heap = H → s.WarmedH U.vm → zB D dA A s.heap.size G U := by
  intro U hU hW
  refine ⟨by rw [hU]; exact hS.1, va_K.moved hW.alike X.2.2.2.2.2.1, ?_, by rw [hU]; exact hG⟩
  rw [hU]
  exact (X.2.2.2.2.2.2.2.1.kept hS.2.1).moved hW.alike (fun k tx a h => zR_moved hW h) (fun _ _ _ _ h => va_Nw.warmM hW h)
theorem z_met {y : MethodName} {maxL : Nat} {ret : Option FieldType} {rm : Room} {av : List Value} {n mc ms : Nat} {Qc : Array Value → State → Outcome → State → Prop} (hy : plainName y.cls = true) (hA : ∀ q, n ≤ q → A q) (hst : l.stackTraces = false) (hav : (lg_sl av).length ≤ maxL) (hc1 : av.all (fun v => v.category == 1) = true) {lo : List (Nat × Value)} (hlo : lv_args 0 av = lo)
    (k : ∀ (p : Program) (e : Env) (s : State) (m : MethodId) (below : List Frame) (meth : Method) (c : Code), zc p l s m av.toArray meth c cc y.cls D dA A → c.maxLocals = maxL → meth.sig.returnType = ret → meth.name = y.name → zz p l e rm s m av.toArray below meth c A G 0 0 (MQ below Qc av.toArray s mc ms A) 0 lo [] []) :
    Met l y (.code y cc maxL ret :: gT) rm (va_Pc av (zB D dA A n G)) Qc mc ms A := by
  refine Met.ofW hy rfl ?_
  intro p e s m args below meth c s₁ B hml hv
  obtain ⟨rfl, hsz, hK, hSt, hG⟩ := hv
  have hts := atoms_spec (ws := .code y cc maxL ret :: gT) B.pre
  have X : zc p l s m av.toArray meth c cc y.cls D dA A := ⟨B.exec, B.bytes, findClass_of_methodNamed B.named, fun w hw => hts w (List.mem_cons_of_mem _ hw), B.notSynchronized, hK, fun q h => hA q (Nat.le_trans hsz h), hSt, hst⟩
  have hk := k p e s m below meth c X hml B.returns (name_of_methodNamed B.named B.method).1
  have hl := lv_entry av (n := maxL) hav
  rw [lg_entry_eq]
  refine hk s.heap [] _ hG va_S.rf ?_ ?_
  · rw [hml, ← hlo]
    simpa using hl
  · rw [← hlo]
    intro q hq
    have key : ∀ (vs : List Value) (i : Nat) (q : Nat × Value), q ∈ lv_args i vs → q.2 ∈ vs := by
      intro vs
      induction vs with
      | nil => intro i q h; cases h
      | cons v t ih =>
        intro i q h
        rcases List.mem_cons.mp h with rfl | h
        · exact List.mem_cons_self
        · exact List.mem_cons_of_mem _ (ih _ q h)
    exact beq_iff_eq.mp (List.all_eq_true.mp hc1 _ (key av 0 q hq))
theorem z_gV {x : Cond} {own C : String} {idx : Nat} {y : MethodName} {b : ByteArray} {n : Nat} {ret : Option FieldType} (h1 : Cond.methodLink own idx y ∈ gT) (h2 : Cond.instanceMethod y ∈ gT) (h3 : Cond.selects C y y ∈ gT) (h4 : Cond.initialized C ∈ gT) (h5 : Cond.code y b n ret ∈ gT) : GoodIn gT (wsV own idx C y (.code y b n ret :: gT)) := by
  have key : ∀ w ∈ gT, w ∈ gT ∧ ((w.onTables && w.keeps) = true ∨ ∃ ty, w = .arrayClass ty) := fun w h => ⟨h, gT_good h⟩
  intro w hw
  rcases List.mem_append.mp hw with hw | hw
  · simp only [List.mem_cons, List.not_mem_nil, or_false] at hw
    rcases hw with rfl | rfl | rfl | rfl
    · exact key _ h1
    · exact key _ h2
    · exact key _ h3
    · exact key _ h4
  · rcases List.mem_cons.mp hw with rfl | hw
    · exact key _ h5
    · exact key _ hw
theorem z_gS {own : String} {idx : Nat} {y : MethodName} {b : ByteArray} {n : Nat} {ret : Option FieldType} (h1 : Cond.methodLink own idx y ∈ gT) (h2 : Cond.static y ∈ gT) (h4 : Cond.initialized own ∈ gT) (h5 : Cond.code y b n ret ∈ gT) : GoodIn gT (wsS own idx y (.code y b n ret :: gT)) := by
  have key : ∀ w ∈ gT, w ∈ gT ∧ ((w.onTables && w.keeps) = true ∨ ∃ ty, w = .arrayClass ty) := fun w h => ⟨h, gT_good h⟩
  intro w hw
  rcases List.mem_append.mp hw with hw | hw
  · simp only [List.mem_cons, List.not_mem_nil, or_false] at hw
    rcases hw with rfl | rfl | rfl
    · exact key _ h1
    · exact key _ h2
    · exact key _ h4
  · rcases List.mem_cons.mp hw with rfl | hw
    · exact key _ h5
    · exact key _ hw
theorem z_gC {y : MethodName} {b : ByteArray} {n : Nat} {ret : Option FieldType} (h5 : Cond.code y b n ret ∈ gT) : GoodIn gT (.code y b n ret :: gT) := by
  intro w hw
  rcases List.mem_cons.mp hw with rfl | hw
  · exact ⟨h5, gT_good h5⟩
  · exact ⟨hw, gT_good hw⟩
theorem z_callVi (X : zc p l s m args meth c cc own D dA A) {y : MethodName} {b : ByteArray} {maxL idx nA mc ms : Nat} {C : String} {ret : Option FieldType} {rm : Room} {a : Nat} {As st : List Value} {S : Type} {r0 : Int32} {pu : S → Prop} {G1 : S → Heap → Prop} (hM : Met l y (.code y b maxL ret :: gT) rm (va_Pc (.ref a :: As) (zB D dA A s.heap.size G)) (va_Qi (fun r u => r = r0 ∧ pu u) (fun u t => G1 u t.heap) A) mc ms A) (h1 : Cond.methodLink own idx y ∈ gT) (h2 : Cond.instanceMethod y ∈ gT) (h3 : Cond.selects C y y ∈ gT) (h4 : Cond.initialized C ∈ gT) (h5 : Cond.code y b maxL ret ∈ gT) (hd : y.cls = C ∧ y.cls ≠ "java/lang/invoke/MethodHandle" ∧ y.cls ≠ "java/lang/invoke/VarHandle" ∧ (parseMethodDescriptor y.desc).map (fun d => d.parameters.length) = some nA) (hrm : rm.cells = mc ∧ rm.slots = ms ∧ rm.frames + 1 ≤ R.frames ∧ 8 + (maxL + 11) + rm.locals ≤ R.locals) (hn : As.length = nA) (hrec : ∀ H, G H → ∃ cell : Cell, H[a]? = some cell ∧ cell.vm.isStatics = false ∧ s.vm.findClass C = some cell.cls) (hst : st = As.reverse ++ .ref a :: rest) (hcat : (rest.map fun v => v.category).sum ≤ 8) (hdg : decode cc pc = .ok (.invokevirtual idx, 3)) (hf : cells + mc ≤ R.cells ∧ slots + ms ≤ R.slots)
    (k : ∀ u, pu u → zz p l e R s m args below meth c A (G1 u) (cells + mc) (slots + ms) Q (pc + 3) lo ll (.int r0 :: rest)) : zz p l e R s m args below meth c A G cells slots Q pc lo ll st := by
  subst hst
  intro H locs ls hG hS hl hc
  exact va_calli (va_runV (As := As) (rest := rest) ⟨X.1, X.2.1, rfl, X.2.2.1, X.2.2.2.1⟩ hM (cwV nA X.2.2.2.1 (z_gV (x := .tt) h1 h2 h3 h4 h5) rfl hrm.1 hrm.2.1 hd hrm.2.2) ⟨zB_blind, hrec H hG, fun U hU hW => ⟨rfl, zB_at X hG hS U hU hW⟩⟩ rfl hn hl.1 rfl (lv_room hcat) hdg hf) hS (fun _ _ h => h) (fun _ h => h) (fun r u t H1 locs1 ht _ hp hB _ _ hS1 => by obtain ⟨rfl, hp⟩ := hp; exact k u hp H1 locs1 ls (by rw [← ht]; exact hB) hS1 hl hc)
theorem z_callVv (X : zc p l s m args meth c cc own D dA A) {y : MethodName} {b : ByteArray} {maxL idx nA mc ms : Nat} {C : String} {ret : Option FieldType} {rm : Room} {a : Nat} {As st : List Value} {S : Type} {pu : S → Prop} {G1 : S → Heap → Prop} (hM : Met l y (.code y b maxL ret :: gT) rm (va_Pc (.ref a :: As) (zB D dA A s.heap.size G)) (va_Qv pu (fun u t => G1 u t.heap) A) mc ms A) (h1 : Cond.methodLink own idx y ∈ gT) (h2 : Cond.instanceMethod y ∈ gT) (h3 : Cond.selects C y y ∈ gT) (h4 : Cond.initialized C ∈ gT) (h5 : Cond.code y b maxL ret ∈ gT) (hd : y.cls = C ∧ y.cls ≠ "java/lang/invoke/MethodHandle" ∧ y.cls ≠ "java/lang/invoke/VarHandle" ∧ (parseMethodDescriptor y.desc).map (fun d => d.parameters.length) = some nA) (hrm : rm.cells = mc ∧ rm.slots = ms ∧ rm.frames + 1 ≤ R.frames ∧ 8 + (maxL + 11) + rm.locals ≤ R.locals) (hn : As.length = nA) (hrec : ∀ H, G H → ∃ cell : Cell, H[a]? = some cell ∧ cell.vm.isStatics = false ∧ s.vm.findClass C = some cell.cls) (hst : st = As.reverse ++ .ref a :: rest) (hcat : (rest.map fun v => v.category).sum ≤ 8) (hdg : decode cc pc = .ok (.invokevirtual idx, 3)) (hf : cells + mc ≤ R.cells ∧ slots + ms ≤ R.slots)
    (k : ∀ u, pu u → zz p l e R s m args below meth c A (G1 u) (cells + mc) (slots + ms) Q (pc + 3) lo ll (rest)) : zz p l e R s m args below meth c A G cells slots Q pc lo ll st := by
  subst hst
  intro H locs ls hG hS hl hc
  exact va_callv (va_runV (As := As) (rest := rest) ⟨X.1, X.2.1, rfl, X.2.2.1, X.2.2.2.1⟩ hM (cwV nA X.2.2.2.1 (z_gV (x := .tt) h1 h2 h3 h4 h5) rfl hrm.1 hrm.2.1 hd hrm.2.2) ⟨zB_blind, hrec H hG, fun U hU hW => ⟨rfl, zB_at X hG hS U hU hW⟩⟩ rfl hn hl.1 rfl (lv_room hcat) hdg hf) hS (fun _ _ h => h) (fun _ h => h) (fun u t H1 locs1 ht _ hp hB _ _ hS1 => k u hp H1 locs1 ls (by rw [← ht]; exact hB) hS1 hl hc)
theorem z_callVl (X : zc p l s m args meth c cc own D dA A) {y : MethodName} {b : ByteArray} {maxL idx nA mc ms : Nat} {C : String} {ret : Option FieldType} {rm : Room} {a : Nat} {As st : List Value} {S : Type} {r0 : Int64} {pu : S → Prop} {G1 : S → Heap → Prop} (hM : Met l y (.code y b maxL ret :: gT) rm (va_Pc (.ref a :: As) (zB D dA A s.heap.size G)) (va_Ql (fun r u => r = r0 ∧ pu u) (fun u t => G1 u t.heap) A) mc ms A) (h1 : Cond.methodLink own idx y ∈ gT) (h2 : Cond.instanceMethod y ∈ gT) (h3 : Cond.selects C y y ∈ gT) (h4 : Cond.initialized C ∈ gT) (h5 : Cond.code y b maxL ret ∈ gT) (hd : y.cls = C ∧ y.cls ≠ "java/lang/invoke/MethodHandle" ∧ y.cls ≠ "java/lang/invoke/VarHandle" ∧ (parseMethodDescriptor y.desc).map (fun d => d.parameters.length) = some nA) (hrm : rm.cells = mc ∧ rm.slots = ms ∧ rm.frames + 1 ≤ R.frames ∧ 8 + (maxL + 11) + rm.locals ≤ R.locals) (hn : As.length = nA) (hrec : ∀ H, G H → ∃ cell : Cell, H[a]? = some cell ∧ cell.vm.isStatics = false ∧ s.vm.findClass C = some cell.cls) (hst : st = As.reverse ++ .ref a :: rest) (hcat : (rest.map fun v => v.category).sum ≤ 8) (hdg : decode cc pc = .ok (.invokevirtual idx, 3)) (hf : cells + mc ≤ R.cells ∧ slots + ms ≤ R.slots)
    (k : ∀ u, pu u → zz p l e R s m args below meth c A (G1 u) (cells + mc) (slots + ms) Q (pc + 3) lo ll (.long r0 :: rest)) : zz p l e R s m args below meth c A G cells slots Q pc lo ll st := by
  subst hst
  intro H locs ls hG hS hl hc
  exact va_calll (va_runV (As := As) (rest := rest) ⟨X.1, X.2.1, rfl, X.2.2.1, X.2.2.2.1⟩ hM (cwV nA X.2.2.2.1 (z_gV (x := .tt) h1 h2 h3 h4 h5) rfl hrm.1 hrm.2.1 hd hrm.2.2) ⟨zB_blind, hrec H hG, fun U hU hW => ⟨rfl, zB_at X hG hS U hU hW⟩⟩ rfl hn hl.1 rfl (lv_room hcat) hdg hf) hS (fun _ _ h => h) (fun _ h => h) (fun r u t H1 locs1 ht _ hp hB _ _ hS1 => by obtain ⟨rfl, hp⟩ := hp; exact k u hp H1 locs1 ls (by rw [← ht]; exact hB) hS1 hl hc)
theorem z_callVq (X : zc p l s m args meth c cc own D dA A) {y : MethodName} {b : ByteArray} {maxL idx nA mc ms : Nat} {C : String} {ret : Option FieldType} {rm : Room} {a : Nat} {As st : List Value} {S : Type} {ro : S → Option Nat} {pu : S → Prop} {G1 : S → Heap → Prop} (hM : Met l y (.code y b maxL ret :: gT) rm (va_Pc (.ref a :: As) (zB D dA A s.heap.size G)) (va_Qq (fun r u => r = ro u ∧ pu u) (fun u t => G1 u t.heap) A) mc ms A) (h1 : Cond.methodLink own idx y ∈ gT) (h2 : Cond.instanceMethod y ∈ gT) (h3 : Cond.selects C y y ∈ gT) (h4 : Cond.initialized C ∈ gT) (h5 : Cond.code y b maxL ret ∈ gT) (hd : y.cls = C ∧ y.cls ≠ "java/lang/invoke/MethodHandle" ∧ y.cls ≠ "java/lang/invoke/VarHandle" ∧ (parseMethodDescriptor y.desc).map (fun d => d.parameters.length) = some nA) (hrm : rm.cells = mc ∧ rm.slots = ms ∧ rm.frames + 1 ≤ R.frames ∧ 8 + (maxL + 11) + rm.locals ≤ R.locals) (hn : As.length = nA) (hrec : ∀ H, G H → ∃ cell : Cell, H[a]? = some cell ∧ cell.vm.isStatics = false ∧ s.vm.findClass C = some cell.cls) (hst : st = As.reverse ++ .ref a :: rest) (hcat : (rest.map fun v => v.category).sum ≤ 8) (hdg : decode cc pc = .ok (.invokevirtual idx, 3)) (hf : cells + mc ≤ R.cells ∧ slots + ms ≤ R.slots)
    (k : ∀ u, pu u → zz p l e R s m args below meth c A (G1 u) (cells + mc) (slots + ms) Q (pc + 3) lo ll (va_rf (ro u) :: rest)) : zz p l e R s m args below meth c A G cells slots Q pc lo ll st := by
  subst hst
  intro H locs ls hG hS hl hc
  exact va_callq (va_runV (As := As) (rest := rest) ⟨X.1, X.2.1, rfl, X.2.2.1, X.2.2.2.1⟩ hM (cwV nA X.2.2.2.1 (z_gV (x := .tt) h1 h2 h3 h4 h5) rfl hrm.1 hrm.2.1 hd hrm.2.2) ⟨zB_blind, hrec H hG, fun U hU hW => ⟨rfl, zB_at X hG hS U hU hW⟩⟩ rfl hn hl.1 rfl (lv_room hcat) hdg hf) hS (fun _ _ h => h) (fun _ h => h) (fun r u t H1 locs1 ht _ hp hB _ _ hS1 => by obtain ⟨rfl, hp⟩ := hp; exact k u hp H1 locs1 ls (by rw [← ht]; exact hB) hS1 hl hc)
theorem z_callSi (X : zc p l s m args meth c cc own D dA A) {y : MethodName} {b : ByteArray} {maxL idx nA mc ms : Nat} {ret : Option FieldType} {rm : Room} {As st : List Value} {S : Type} {r0 : Int32} {pu : S → Prop} {G1 : S → Heap → Prop} (hM : Met l y (.code y b maxL ret :: gT) rm (va_Pc As (zB D dA A s.heap.size G)) (va_Qi (fun r u => r = r0 ∧ pu u) (fun u t => G1 u t.heap) A) mc ms A) (h1 : Cond.methodLink own idx y ∈ gT) (h2 : Cond.static y ∈ gT) (h4 : Cond.initialized own ∈ gT) (h5 : Cond.code y b maxL ret ∈ gT) (hd : y.cls = own ∧ y.cls ≠ "java/lang/invoke/MethodHandle" ∧ y.cls ≠ "java/lang/invoke/VarHandle" ∧ (parseMethodDescriptor y.desc).map (fun d => d.parameters.length) = some nA) (hrm : rm.cells = mc ∧ rm.slots = ms ∧ rm.frames + 1 ≤ R.frames ∧ 8 + (maxL + 11) + rm.locals ≤ R.locals) (hn : As.length = nA)  (hst : st = As.reverse ++ rest) (hcat : (rest.map fun v => v.category).sum ≤ 8) (hdg : decode cc pc = .ok (.invokestatic idx, 3)) (hf : cells + mc ≤ R.cells ∧ slots + ms ≤ R.slots)
    (k : ∀ u, pu u → zz p l e R s m args below meth c A (G1 u) (cells + mc) (slots + ms) Q (pc + 3) lo ll (.int r0 :: rest)) : zz p l e R s m args below meth c A G cells slots Q pc lo ll st := by
  subst hst
  intro H locs ls hG hS hl hc
  exact va_calli (va_runS (As := As) (rest := rest) ⟨X.1, X.2.1, rfl, X.2.2.1, X.2.2.2.1⟩ hM (cwS nA X.2.2.2.1 (z_gS h1 h2 h4 h5) rfl hrm.1 hrm.2.1 hd hrm.2.2) ⟨zB_blind, fun U hU hW => ⟨rfl, zB_at X hG hS U hU hW⟩⟩ rfl hn hl.1 rfl (lv_room hcat) hdg hf) hS (fun _ _ h => h) (fun _ h => h) (fun r u t H1 locs1 ht _ hp hB _ _ hS1 => by obtain ⟨rfl, hp⟩ := hp; exact k u hp H1 locs1 ls (by rw [← ht]; exact hB) hS1 hl hc)
theorem z_callSv (X : zc p l s m args meth c cc own D dA A) {y : MethodName} {b : ByteArray} {maxL idx nA mc ms : Nat} {ret : Option FieldType} {rm : Room} {As st : List Value} {S : Type} {pu : S → Prop} {G1 : S → Heap → Prop} (hM : Met l y (.code y b maxL ret :: gT) rm (va_Pc As (zB D dA A s.heap.size G)) (va_Qv pu (fun u t => G1 u t.heap) A) mc ms A) (h1 : Cond.methodLink own idx y ∈ gT) (h2 : Cond.static y ∈ gT) (h4 : Cond.initialized own ∈ gT) (h5 : Cond.code y b maxL ret ∈ gT) (hd : y.cls = own ∧ y.cls ≠ "java/lang/invoke/MethodHandle" ∧ y.cls ≠ "java/lang/invoke/VarHandle" ∧ (parseMethodDescriptor y.desc).map (fun d => d.parameters.length) = some nA) (hrm : rm.cells = mc ∧ rm.slots = ms ∧ rm.frames + 1 ≤ R.frames ∧ 8 + (maxL + 11) + rm.locals ≤ R.locals) (hn : As.length = nA)  (hst : st = As.reverse ++ rest) (hcat : (rest.map fun v => v.category).sum ≤ 8) (hdg : decode cc pc = .ok (.invokestatic idx, 3)) (hf : cells + mc ≤ R.cells ∧ slots + ms ≤ R.slots)
    (k : ∀ u, pu u → zz p l e R s m args below meth c A (G1 u) (cells + mc) (slots + ms) Q (pc + 3) lo ll (rest)) : zz p l e R s m args below meth c A G cells slots Q pc lo ll st := by
  subst hst
  intro H locs ls hG hS hl hc
  exact va_callv (va_runS (As := As) (rest := rest) ⟨X.1, X.2.1, rfl, X.2.2.1, X.2.2.2.1⟩ hM (cwS nA X.2.2.2.1 (z_gS h1 h2 h4 h5) rfl hrm.1 hrm.2.1 hd hrm.2.2) ⟨zB_blind, fun U hU hW => ⟨rfl, zB_at X hG hS U hU hW⟩⟩ rfl hn hl.1 rfl (lv_room hcat) hdg hf) hS (fun _ _ h => h) (fun _ h => h) (fun u t H1 locs1 ht _ hp hB _ _ hS1 => k u hp H1 locs1 ls (by rw [← ht]; exact hB) hS1 hl hc)
theorem z_callSl (X : zc p l s m args meth c cc own D dA A) {y : MethodName} {b : ByteArray} {maxL idx nA mc ms : Nat} {ret : Option FieldType} {rm : Room} {As st : List Value} {S : Type} {r0 : Int64} {pu : S → Prop} {G1 : S → Heap → Prop} (hM : Met l y (.code y b maxL ret :: gT) rm (va_Pc As (zB D dA A s.heap.size G)) (va_Ql (fun r u => r = r0 ∧ pu u) (fun u t => G1 u t.heap) A) mc ms A) (h1 : Cond.methodLink own idx y ∈ gT) (h2 : Cond.static y ∈ gT) (h4 : Cond.initialized own ∈ gT) (h5 : Cond.code y b maxL ret ∈ gT) (hd : y.cls = own ∧ y.cls ≠ "java/lang/invoke/MethodHandle" ∧ y.cls ≠ "java/lang/invoke/VarHandle" ∧ (parseMethodDescriptor y.desc).map (fun d => d.parameters.length) = some nA) (hrm : rm.cells = mc ∧ rm.slots = ms ∧ rm.frames + 1 ≤ R.frames ∧ 8 + (maxL + 11) + rm.locals ≤ R.locals) (hn : As.length = nA)  (hst : st = As.reverse ++ rest) (hcat : (rest.map fun v => v.category).sum ≤ 8) (hdg : decode cc pc = .ok (.invokestatic idx, 3)) (hf : cells + mc ≤ R.cells ∧ slots + ms ≤ R.slots)
    (k : ∀ u, pu u → zz p l e R s m args below meth c A (G1 u) (cells + mc) (slots + ms) Q (pc + 3) lo ll (.long r0 :: rest)) : zz p l e R s m args below meth c A G cells slots Q pc lo ll st := by
  subst hst
  intro H locs ls hG hS hl hc
  exact va_calll (va_runS (As := As) (rest := rest) ⟨X.1, X.2.1, rfl, X.2.2.1, X.2.2.2.1⟩ hM (cwS nA X.2.2.2.1 (z_gS h1 h2 h4 h5) rfl hrm.1 hrm.2.1 hd hrm.2.2) ⟨zB_blind, fun U hU hW => ⟨rfl, zB_at X hG hS U hU hW⟩⟩ rfl hn hl.1 rfl (lv_room hcat) hdg hf) hS (fun _ _ h => h) (fun _ h => h) (fun r u t H1 locs1 ht _ hp hB _ _ hS1 => by obtain ⟨rfl, hp⟩ := hp; exact k u hp H1 locs1 ls (by rw [← ht]; exact hB) hS1 hl hc)
theorem z_callSq (X : zc p l s m args meth c cc own D dA A) {y : MethodName} {b : ByteArray} {maxL idx nA mc ms : Nat} {ret : Option FieldType} {rm : Room} {As st : List Value} {S : Type} {ro : S → Option Nat} {pu : S → Prop} {G1 : S → Heap → Prop} (hM : Met l y (.code y b maxL ret :: gT) rm (va_Pc As (zB D dA A s.heap.size G)) (va_Qq (fun r u => r = ro u ∧ pu u) (fun u t => G1 u t.heap) A) mc ms A) (h1 : Cond.methodLink own idx y ∈ gT) (h2 : Cond.static y ∈ gT) (h4 : Cond.initialized own ∈ gT) (h5 : Cond.code y b maxL ret ∈ gT) (hd : y.cls = own ∧ y.cls ≠ "java/lang/invoke/MethodHandle" ∧ y.cls ≠ "java/lang/invoke/VarHandle" ∧ (parseMethodDescriptor y.desc).map (fun d => d.parameters.length) = some nA) (hrm : rm.cells = mc ∧ rm.slots = ms ∧ rm.frames + 1 ≤ R.frames ∧ 8 + (maxL + 11) + rm.locals ≤ R.locals) (hn : As.length = nA)  (hst : st = As.reverse ++ rest) (hcat : (rest.map fun v => v.category).sum ≤ 8) (hdg : decode cc pc = .ok (.invokestatic idx, 3)) (hf : cells + mc ≤ R.cells ∧ slots + ms ≤ R.slots)
    (k : ∀ u, pu u → zz p l e R s m args below meth c A (G1 u) (cells + mc) (slots + ms) Q (pc + 3) lo ll (va_rf (ro u) :: rest)) : zz p l e R s m args below meth c A G cells slots Q pc lo ll st := by
  subst hst
  intro H locs ls hG hS hl hc
  exact va_callq (va_runS (As := As) (rest := rest) ⟨X.1, X.2.1, rfl, X.2.2.1, X.2.2.2.1⟩ hM (cwS nA X.2.2.2.1 (z_gS h1 h2 h4 h5) rfl hrm.1 hrm.2.1 hd hrm.2.2) ⟨zB_blind, fun U hU hW => ⟨rfl, zB_at X hG hS U hU hW⟩⟩ rfl hn hl.1 rfl (lv_room hcat) hdg hf) hS (fun _ _ h => h) (fun _ h => h) (fun r u t H1 locs1 ht _ hp hB _ _ hS1 => by obtain ⟨rfl, hp⟩ := hp; exact k u hp H1 locs1 ls (by rw [← ht]; exact hB) hS1 hl hc)
theorem z_min (X : zc p l s m args meth c cc own D dA A) {index : Nat} {x y : Int32} (h1 : Cond.methodLink own index Lib.Math.min.name ∈ gT) (h2 : Cond.static Lib.Math.min.name ∈ gT) (h3 : Cond.initialized "java/lang/Math" ∈ gT) (h4 : Cond.code Lib.Math.min.name Lib.Math.min.code 2 (some .int) ∈ gT) (hfr : 1 ≤ R.frames) (hlo : (rest.map fun v => v.category).sum + 13 ≤ R.locals) (hcs : cells ≤ R.cells ∧ slots ≤ R.slots) (hdg : decode cc pc = .ok (.invokestatic index, 3)) (k : zz p l e R s m args below meth c A G cells slots Q (pc + 3) lo ll (.int (if y < x then y else x) :: rest)) : zz p l e R s m args below meth c A G cells slots Q pc lo ll (.int y :: .int x :: rest) :=
  fun H locs ls hG hS hl hc => va_mmin X.1 X.2.1 hl.1.symm X.2.2.1 (X.2.2.2.1 _ h1) (X.2.2.2.1 _ h2) (X.2.2.2.1 _ h3) (X.2.2.2.1 _ h4) hfr hlo hcs.1 hcs.2 hdg (k H locs ls hG hS hl hc)
theorem z_max (X : zc p l s m args meth c cc own D dA A) {index : Nat} {x y : Int32} (h1 : Cond.methodLink own index Lib.Math.max.name ∈ gT) (h2 : Cond.static Lib.Math.max.name ∈ gT) (h3 : Cond.initialized "java/lang/Math" ∈ gT) (h4 : Cond.code Lib.Math.max.name Lib.Math.max.code 2 (some .int) ∈ gT) (hfr : 1 ≤ R.frames) (hlo : (rest.map fun v => v.category).sum + 13 ≤ R.locals) (hcs : cells ≤ R.cells ∧ slots ≤ R.slots) (hdg : decode cc pc = .ok (.invokestatic index, 3)) (k : zz p l e R s m args below meth c A G cells slots Q (pc + 3) lo ll (.int (if x < y then y else x) :: rest)) : zz p l e R s m args below meth c A G cells slots Q pc lo ll (.int y :: .int x :: rest) :=
  fun H locs ls hG hS hl hc => va_mmax X.1 X.2.1 hl.1.symm X.2.2.1 (X.2.2.2.1 _ h1) (X.2.2.2.1 _ h2) (X.2.2.2.1 _ h3) (X.2.2.2.1 _ h4) hfr hlo hcs.1 hcs.2 hdg (k H locs ls hG hS hl hc)
theorem z_abs (X : zc p l s m args meth c cc own D dA A) {index : Nat} {x : Int32} (h1 : Cond.methodLink own index Lib.Math.abs.name ∈ gT) (h2 : Cond.static Lib.Math.abs.name ∈ gT) (h3 : Cond.initialized "java/lang/Math" ∈ gT) (h4 : Cond.code Lib.Math.abs.name Lib.Math.abs.code 1 (some .int) ∈ gT) (hfr : 1 ≤ R.frames) (hlo : (rest.map fun v => v.category).sum + 13 ≤ R.locals) (hcs : cells ≤ R.cells ∧ slots ≤ R.slots) (hdg : decode cc pc = .ok (.invokestatic index, 3)) (k : zz p l e R s m args below meth c A G cells slots Q (pc + 3) lo ll (.int (if 0 ≤ x then x else 0 - x) :: rest)) : zz p l e R s m args below meth c A G cells slots Q pc lo ll (.int x :: rest) :=
  fun H locs ls hG hS hl hc => va_mabs X.1 X.2.1 hl.1.symm X.2.2.1 (X.2.2.2.1 _ h1) (X.2.2.2.1 _ h2) (X.2.2.2.1 _ h3) (X.2.2.2.1 _ h4) hfr hlo hcs.1 hcs.2 hdg (k H locs ls hG hS hl hc)
theorem zp {c9 : Prop} [Decidable c9] {α : Type} {a b o : α} (q : c9) (h : (if c9 then a else b) = o) : a = o := (if_pos q).symm.trans h
theorem zn {c9 : Prop} [Decidable c9] {α : Type} {a b o : α} (q : ¬ c9) (h : (if c9 then a else b) = o) : b = o := (if_neg q).symm.trans h
theorem zg {c9 : Prop} [Decidable c9] {α : Type} {b : Option α} {o : α} (h : (if c9 then none else b) = some o) : ¬ c9 ∧ b = some o := by
  by_cases q : c9
  · rw [if_pos q] at h; cases h
  · rw [if_neg q] at h; exact ⟨q, h⟩
theorem zgp {c9 : Prop} [Decidable c9] {α : Type} {b : Option α} {o : α} (h : (if c9 then b else none) = some o) : c9 ∧ b = some o := by
  by_cases q : c9
  · rw [if_pos q] at h; exact ⟨q, h⟩
  · rw [if_neg q] at h; cases h
theorem zb {α β : Type} {v : α} {k : α → Option β} {o : β} (h : (some v).bind k = some o) : ∃ x, v = x ∧ k x = some o := ⟨v, rfl, h⟩
theorem zb2 {α β : Type} {v : Option α} {k : α → Option β} {o : β} (h : v.bind k = some o) : ∃ x, v = some x ∧ k x = some o := by
  cases v with
  | none => cases h
  | some x => exact ⟨x, rfl, h⟩
theorem z_nb {v : Int32} (h : v = 0 ∨ v = 1) : narrow .boolean (.int v) = .int v := by rcases h with rfl | rfl <;> rfl
def FU : Nat := 3000
/-- a table of columns, with one place changed -/
def cs (V : Nat → Nat → Int32) (c i : Nat) (x : Int32) : Nat → Nat → Int32 := fun c' i' => if c' = c ∧ i' = i then x else V c' i'

end ZZ
