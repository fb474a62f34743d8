/-! the machine at the law's entry: strings, arrays -/
def sfl : List Cond := flatC (Cond.and given_1 narrow_1)
def sval (own : String) (k : Nat) : Term := .field (.string own k) "java/lang/String" "value" "[B"
def sfacts (own : String) (k len : Nat) (ch : List Int32) : List Cond := [.exactly (.string own k) "java/lang/String", .eq (.field (.string own k) "java/lang/String" "coder" "B") (.int 0), .arrayOf (sval own k) .byte, .eq (.length (sval own k)) (.int (Int32.ofNat len))] ++ (List.range len).map fun j => .eq (.elem (sval own k) (.int (Int32.ofNat j))) (.int (ch.getD j 0))
theorem mem_cut {α : Type} {l m : List α} {p n : Nat} (h : (l.drop p).take n = m) {x : α} (hx : x ∈ m) : x ∈ l := by
  rw [← h] at hx
  exact List.mem_of_mem_drop (List.mem_of_mem_take hx)
def sOK (A : Nat → Prop) (s : State) (q : String × Nat × String) : Prop := ∃ a v : Nat, vk_R q.1 q.2.1 q.2.2 a s ∧ vk_S 1 [q.2.2.length] [q.2.2.toList.map fun ch => nI ch.toNat] (fun _ => a) (fun _ => v) A s s.heap
theorem s_str {b : Nat} {s : State} (hts : ∀ w ∈ lw_tbl, w.before #[Value.ref b] s = true) (hf : ∀ w ∈ sfl, w.before #[Value.ref b] s = true) (A : Nat → Prop) (hA : ∀ a : Nat, a < s.heap.size → ¬ A a) {own tx : String} {k p len : Nat} {ch : List Int32} (hr : Cond.stringRef own k tx ∈ lw_tbl) (hl : len < 1000) (hm : (sfl.drop p).take (len + 4) = sfacts own k len ch) : ∃ a v : Nat, vk_R own k tx a s ∧ vk_S 1 [len] [ch] (fun _ => a) (fun _ => v) A s s.heap := by
  have g : ∀ w ∈ sfacts own k len ch, w.before #[Value.ref b] s = true := fun w hw => hf w (mem_cut hm hw)
  unfold sfacts at g
  obtain ⟨adK, adV, hS, hE⟩ := vk_Sof (N := 1) (tm := fun _ => .string own k) (len := [len]) (byt := [ch]) (args := #[Value.ref b]) (s := s) (A := A)
    (fun i hi => by rw [show i = 0 by omega]; show len < 2 ^ 31; omega)
    (fun i hi => g _ (by simp)) (fun i hi => g _ (by simp)) (fun i hi => g _ (by simp [sval]))
    (fun i hi => by rw [show i = 0 by omega]; exact g _ (by simp [sval]))
    (fun i hi j hj => by
      rw [show i = 0 by omega] at hj ⊢
      exact g _ (List.mem_append_right _ (List.mem_map.mpr ⟨j, List.mem_range.mpr hj, rfl⟩)))
    (fun i j hi hj hne => absurd (show i = j by omega) hne) hA
  refine ⟨adK 0, adV 0, vk_R.of (hts _ hr) (hE 0 (by omega)), ⟨fun i hi => ?_, fun i j hi hj _ => by omega⟩⟩
  rw [show i = 0 by omega]
  exact hS.1 0 (by omega)
theorem s_arr {b : Nat} {s : State} {ty : FieldType} (h : (Cond.arrayClass ty).before #[Value.ref b] s = true) : ∃ cA : ClassId, ArrOfT s cA ty ∧ s.vm.findClass ("[" ++ ty.toString) = some cA := by
  obtain ⟨c, k, comp, h1, h2, h3⟩ := Cond.arrayClass_spec h
  exact ⟨c, fun n z => ⟨fun k h => (by cases h), k, h2, comp, h3⟩, h1⟩
set_option maxRecDepth 50000 in
theorem ss_0 {b : Nat} {s : State} (hts : ∀ w ∈ lw_tbl, w.before #[Value.ref b] s = true) (hf : ∀ w ∈ sfl, w.before #[Value.ref b] s = true) (A : Nat → Prop) (hA : ∀ a : Nat, a < s.heap.size → ¬ A a) : sOK A s ("RepairTalk$Reader", 44, "node") := by
  unfold sOK
  rw [show ("node" : String).length = 4 by decide, show (("node" : String).toList.map fun ch => nI ch.toNat) = [110, 111, 100, 101] by decide +kernel]
  exact s_str hts hf A hA (len := 4) (ch := [110, 111, 100, 101]) (p := 96) (zt4 (List.mem_of_getElem? (i := 163) (rfl : tables_1_4[163]? = some (Cond.stringRef "RepairTalk$Reader" 44 "node")))) (by decide) rfl
set_option maxRecDepth 50000 in
theorem ss_1 {b : Nat} {s : State} (hts : ∀ w ∈ lw_tbl, w.before #[Value.ref b] s = true) (hf : ∀ w ∈ sfl, w.before #[Value.ref b] s = true) (A : Nat → Prop) (hA : ∀ a : Nat, a < s.heap.size → ¬ A a) : sOK A s ("RepairTalk$Reader", 95, "down") := by
  unfold sOK
  rw [show ("down" : String).length = 4 by decide, show (("down" : String).toList.map fun ch => nI ch.toNat) = [100, 111, 119, 110] by decide +kernel]
  exact s_str hts hf A hA (len := 4) (ch := [100, 111, 119, 110]) (p := 104) (zt4 (List.mem_of_getElem? (i := 224) (rfl : tables_1_4[224]? = some (Cond.stringRef "RepairTalk$Reader" 95 "down")))) (by decide) rfl
set_option maxRecDepth 50000 in
theorem ss_2 {b : Nat} {s : State} (hts : ∀ w ∈ lw_tbl, w.before #[Value.ref b] s = true) (hf : ∀ w ∈ sfl, w.before #[Value.ref b] s = true) (A : Nat → Prop) (hA : ∀ a : Nat, a < s.heap.size → ¬ A a) : sOK A s ("RepairTalk$Reader", 53, "link") := by
  unfold sOK
  rw [show ("link" : String).length = 4 by decide, show (("link" : String).toList.map fun ch => nI ch.toNat) = [108, 105, 110, 107] by decide +kernel]
  exact s_str hts hf A hA (len := 4) (ch := [108, 105, 110, 107]) (p := 112) (zt4 (List.mem_of_getElem? (i := 233) (rfl : tables_1_4[233]? = some (Cond.stringRef "RepairTalk$Reader" 53 "link")))) (by decide) rfl
set_option maxRecDepth 50000 in
theorem ss_3 {b : Nat} {s : State} (hts : ∀ w ∈ lw_tbl, w.before #[Value.ref b] s = true) (hf : ∀ w ∈ sfl, w.before #[Value.ref b] s = true) (A : Nat → Prop) (hA : ∀ a : Nat, a < s.heap.size → ¬ A a) : sOK A s ("RepairTalk$Reader", 126, "delay") := by
  unfold sOK
  rw [show ("delay" : String).length = 5 by decide, show (("delay" : String).toList.map fun ch => nI ch.toNat) = [100, 101, 108, 97, 121] by decide +kernel]
  exact s_str hts hf A hA (len := 5) (ch := [100, 101, 108, 97, 121]) (p := 120) (zt5 (List.mem_of_getElem? (i := 9) (rfl : tables_1_5[9]? = some (Cond.stringRef "RepairTalk$Reader" 126 "delay")))) (by decide) rfl
set_option maxRecDepth 50000 in
theorem ss_4 {b : Nat} {s : State} (hts : ∀ w ∈ lw_tbl, w.before #[Value.ref b] s = true) (hf : ∀ w ∈ sfl, w.before #[Value.ref b] s = true) (A : Nat → Prop) (hA : ∀ a : Nat, a < s.heap.size → ¬ A a) : sOK A s ("RepairTalk$Reader", 128, "loss") := by
  unfold sOK
  rw [show ("loss" : String).length = 4 by decide, show (("loss" : String).toList.map fun ch => nI ch.toNat) = [108, 111, 115, 115] by decide +kernel]
  exact s_str hts hf A hA (len := 4) (ch := [108, 111, 115, 115]) (p := 129) (zt5 (List.mem_of_getElem? (i := 10) (rfl : tables_1_5[10]? = some (Cond.stringRef "RepairTalk$Reader" 128 "loss")))) (by decide) rfl
set_option maxRecDepth 50000 in
theorem ss_5 {b : Nat} {s : State} (hts : ∀ w ∈ lw_tbl, w.before #[Value.ref b] s = true) (hf : ∀ w ∈ sfl, w.before #[Value.ref b] s = true) (A : Nat → Prop) (hA : ∀ a : Nat, a < s.heap.size → ¬ A a) : sOK A s ("RepairTalk$Reader", 58, "request") := by
  unfold sOK
  rw [show ("request" : String).length = 7 by decide, show (("request" : String).toList.map fun ch => nI ch.toNat) = [114, 101, 113, 117, 101, 115, 116] by decide +kernel]
  exact s_str hts hf A hA (len := 7) (ch := [114, 101, 113, 117, 101, 115, 116]) (p := 137) (zt5 (List.mem_of_getElem? (i := 15) (rfl : tables_1_5[15]? = some (Cond.stringRef "RepairTalk$Reader" 58 "request")))) (by decide) rfl
set_option maxRecDepth 50000 in
theorem ss_6 {b : Nat} {s : State} (hts : ∀ w ∈ lw_tbl, w.before #[Value.ref b] s = true) (hf : ∀ w ∈ sfl, w.before #[Value.ref b] s = true) (A : Nat → Prop) (hA : ∀ a : Nat, a < s.heap.size → ¬ A a) : sOK A s ("RepairTalk$Reader", 63, "repair") := by
  unfold sOK
  rw [show ("repair" : String).length = 6 by decide, show (("repair" : String).toList.map fun ch => nI ch.toNat) = [114, 101, 112, 97, 105, 114] by decide +kernel]
  exact s_str hts hf A hA (len := 6) (ch := [114, 101, 112, 97, 105, 114]) (p := 148) (zt5 (List.mem_of_getElem? (i := 21) (rfl : tables_1_5[21]? = some (Cond.stringRef "RepairTalk$Reader" 63 "repair")))) (by decide) rfl
set_option maxRecDepth 50000 in
theorem ss_7 {b : Nat} {s : State} (hts : ∀ w ∈ lw_tbl, w.before #[Value.ref b] s = true) (hf : ∀ w ∈ sfl, w.before #[Value.ref b] s = true) (A : Nat → Prop) (hA : ∀ a : Nat, a < s.heap.size → ¬ A a) : sOK A s ("RepairTalk$Reader", 150, "source") := by
  unfold sOK
  rw [show ("source" : String).length = 6 by decide, show (("source" : String).toList.map fun ch => nI ch.toNat) = [115, 111, 117, 114, 99, 101] by decide +kernel]
  exact s_str hts hf A hA (len := 6) (ch := [115, 111, 117, 114, 99, 101]) (p := 158) (zt5 (List.mem_of_getElem? (i := 30) (rfl : tables_1_5[30]? = some (Cond.stringRef "RepairTalk$Reader" 150 "source")))) (by decide) rfl
set_option maxRecDepth 50000 in
theorem ss_8 {b : Nat} {s : State} (hts : ∀ w ∈ lw_tbl, w.before #[Value.ref b] s = true) (hf : ∀ w ∈ sfl, w.before #[Value.ref b] s = true) (A : Nat → Prop) (hA : ∀ a : Nat, a < s.heap.size → ¬ A a) : sOK A s ("RepairTalk$Reader", 154, "scope") := by
  unfold sOK
  rw [show ("scope" : String).length = 5 by decide, show (("scope" : String).toList.map fun ch => nI ch.toNat) = [115, 99, 111, 112, 101] by decide +kernel]
  exact s_str hts hf A hA (len := 5) (ch := [115, 99, 111, 112, 101]) (p := 168) (zt5 (List.mem_of_getElem? (i := 31) (rfl : tables_1_5[31]? = some (Cond.stringRef "RepairTalk$Reader" 154 "scope")))) (by decide) rfl
set_option maxRecDepth 50000 in
theorem ss_9 {b : Nat} {s : State} (hts : ∀ w ∈ lw_tbl, w.before #[Value.ref b] s = true) (hf : ∀ w ∈ sfl, w.before #[Value.ref b] s = true) (A : Nat → Prop) (hA : ∀ a : Nat, a < s.heap.size → ¬ A a) : sOK A s ("RepairTalk$Reader", 158, "session") := by
  unfold sOK
  rw [show ("session" : String).length = 7 by decide, show (("session" : String).toList.map fun ch => nI ch.toNat) = [115, 101, 115, 115, 105, 111, 110] by decide +kernel]
  exact s_str hts hf A hA (len := 7) (ch := [115, 101, 115, 115, 105, 111, 110]) (p := 177) (zt5 (List.mem_of_getElem? (i := 32) (rfl : tables_1_5[32]? = some (Cond.stringRef "RepairTalk$Reader" 158 "session")))) (by decide) rfl
set_option maxRecDepth 50000 in
theorem ss_10 {b : Nat} {s : State} (hts : ∀ w ∈ lw_tbl, w.before #[Value.ref b] s = true) (hf : ∀ w ∈ sfl, w.before #[Value.ref b] s = true) (A : Nat → Prop) (hA : ∀ a : Nat, a < s.heap.size → ¬ A a) : sOK A s ("RepairTalk$Reader", 163, "rate") := by
  unfold sOK
  rw [show ("rate" : String).length = 4 by decide, show (("rate" : String).toList.map fun ch => nI ch.toNat) = [114, 97, 116, 101] by decide +kernel]
  exact s_str hts hf A hA (len := 4) (ch := [114, 97, 116, 101]) (p := 188) (zt5 (List.mem_of_getElem? (i := 33) (rfl : tables_1_5[33]? = some (Cond.stringRef "RepairTalk$Reader" 163 "rate")))) (by decide) rfl
set_option maxRecDepth 50000 in
theorem ss_11 {b : Nat} {s : State} (hts : ∀ w ∈ lw_tbl, w.before #[Value.ref b] s = true) (hf : ∀ w ∈ sfl, w.before #[Value.ref b] s = true) (A : Nat → Prop) (hA : ∀ a : Nat, a < s.heap.size → ¬ A a) : sOK A s ("RepairTalk", 67, "the text is wrong") := by
  unfold sOK
  rw [show ("the text is wrong" : String).length = 17 by decide, show (("the text is wrong" : String).toList.map fun ch => nI ch.toNat) = [116, 104, 101, 32, 116, 101, 120, 116, 32, 105, 115, 32, 119, 114, 111, 110, 103] by decide +kernel]
  exact s_str hts hf A hA (len := 17) (ch := [116, 104, 101, 32, 116, 101, 120, 116, 32, 105, 115, 32, 119, 114, 111, 110, 103]) (p := 196) (zt5 (List.mem_of_getElem? (i := 77) (rfl : tables_1_5[77]? = some (Cond.stringRef "RepairTalk" 67 "the text is wrong")))) (by decide) rfl
set_option maxRecDepth 50000 in
theorem ss_12 {b : Nat} {s : State} (hts : ∀ w ∈ lw_tbl, w.before #[Value.ref b] s = true) (hf : ∀ w ∈ sfl, w.before #[Value.ref b] s = true) (A : Nat → Prop) (hA : ∀ a : Nat, a < s.heap.size → ¬ A a) : sOK A s ("RepairTalk", 77, "there are 12 texts") := by
  unfold sOK
  rw [show ("there are 12 texts" : String).length = 18 by decide, show (("there are 12 texts" : String).toList.map fun ch => nI ch.toNat) = [116, 104, 101, 114, 101, 32, 97, 114, 101, 32, 49, 50, 32, 116, 101, 120, 116, 115] by decide +kernel]
  exact s_str hts hf A hA (len := 18) (ch := [116, 104, 101, 114, 101, 32, 97, 114, 101, 32, 49, 50, 32, 116, 101, 120, 116, 115]) (p := 217) (zt5 (List.mem_of_getElem? (i := 112) (rfl : tables_1_5[112]? = some (Cond.stringRef "RepairTalk" 77 "there are 12 texts")))) (by decide) rfl
set_option maxRecDepth 50000 in
theorem ss_13 {b : Nat} {s : State} (hts : ∀ w ∈ lw_tbl, w.before #[Value.ref b] s = true) (hf : ∀ w ∈ sfl, w.before #[Value.ref b] s = true) (A : Nat → Prop) (hA : ∀ a : Nat, a < s.heap.size → ¬ A a) : sOK A s ("RepairTalk", 425, "no such node") := by
  unfold sOK
  rw [show ("no such node" : String).length = 12 by decide, show (("no such node" : String).toList.map fun ch => nI ch.toNat) = [110, 111, 32, 115, 117, 99, 104, 32, 110, 111, 100, 101] by decide +kernel]
  exact s_str hts hf A hA (len := 12) (ch := [110, 111, 32, 115, 117, 99, 104, 32, 110, 111, 100, 101]) (p := 239) (zt5 (List.mem_of_getElem? (i := 168) (rfl : tables_1_5[168]? = some (Cond.stringRef "RepairTalk" 425 "no such node")))) (by decide) rfl
set_option maxRecDepth 50000 in
theorem ss_14 {b : Nat} {s : State} (hts : ∀ w ∈ lw_tbl, w.before #[Value.ref b] s = true) (hf : ∀ w ∈ sfl, w.before #[Value.ref b] s = true) (A : Nat → Prop) (hA : ∀ a : Nat, a < s.heap.size → ¬ A a) : sOK A s ("RepairTalk", 130, "no such thing of a node") := by
  unfold sOK
  rw [show ("no such thing of a node" : String).length = 23 by decide, show (("no such thing of a node" : String).toList.map fun ch => nI ch.toNat) = [110, 111, 32, 115, 117, 99, 104, 32, 116, 104, 105, 110, 103, 32, 111, 102, 32, 97, 32, 110, 111, 100, 101] by decide +kernel]
  exact s_str hts hf A hA (len := 23) (ch := [110, 111, 32, 115, 117, 99, 104, 32, 116, 104, 105, 110, 103, 32, 111, 102, 32, 97, 32, 110, 111, 100, 101]) (p := 255) (zt5 (List.mem_of_getElem? (i := 186) (rfl : tables_1_5[186]? = some (Cond.stringRef "RepairTalk" 130 "no such thing of a node")))) (by decide) rfl
set_option maxRecDepth 50000 in
theorem ss_15 {b : Nat} {s : State} (hts : ∀ w ∈ lw_tbl, w.before #[Value.ref b] s = true) (hf : ∀ w ∈ sfl, w.before #[Value.ref b] s = true) (A : Nat → Prop) (hA : ∀ a : Nat, a < s.heap.size → ¬ A a) : sOK A s ("RepairTalk", 133, "both nodes are one") := by
  unfold sOK
  rw [show ("both nodes are one" : String).length = 18 by decide, show (("both nodes are one" : String).toList.map fun ch => nI ch.toNat) = [98, 111, 116, 104, 32, 110, 111, 100, 101, 115, 32, 97, 114, 101, 32, 111, 110, 101] by decide +kernel]
  exact s_str hts hf A hA (len := 18) (ch := [98, 111, 116, 104, 32, 110, 111, 100, 101, 115, 32, 97, 114, 101, 32, 111, 110, 101]) (p := 282) (zt5 (List.mem_of_getElem? (i := 200) (rfl : tables_1_5[200]? = some (Cond.stringRef "RepairTalk" 133 "both nodes are one")))) (by decide) rfl
set_option maxRecDepth 50000 in
theorem ss_16 {b : Nat} {s : State} (hts : ∀ w ∈ lw_tbl, w.before #[Value.ref b] s = true) (hf : ∀ w ∈ sfl, w.before #[Value.ref b] s = true) (A : Nat → Prop) (hA : ∀ a : Nat, a < s.heap.size → ¬ A a) : sOK A s ("RepairTalk", 429, "no such packet") := by
  unfold sOK
  rw [show ("no such packet" : String).length = 14 by decide, show (("no such packet" : String).toList.map fun ch => nI ch.toNat) = [110, 111, 32, 115, 117, 99, 104, 32, 112, 97, 99, 107, 101, 116] by decide +kernel]
  exact s_str hts hf A hA (len := 14) (ch := [110, 111, 32, 115, 117, 99, 104, 32, 112, 97, 99, 107, 101, 116]) (p := 304) (zt5 (List.mem_of_getElem? (i := 212) (rfl : tables_1_5[212]? = some (Cond.stringRef "RepairTalk" 429 "no such packet")))) (by decide) rfl
set_option maxRecDepth 50000 in
theorem ss_17 {b : Nat} {s : State} (hts : ∀ w ∈ lw_tbl, w.before #[Value.ref b] s = true) (hf : ∀ w ∈ sfl, w.before #[Value.ref b] s = true) (A : Nat → Prop) (hA : ∀ a : Nat, a < s.heap.size → ¬ A a) : sOK A s ("RepairTalk", 178, "no such thing of a node and a packet") := by
  unfold sOK
  rw [show ("no such thing of a node and a packet" : String).length = 36 by decide, show (("no such thing of a node and a packet" : String).toList.map fun ch => nI ch.toNat) = [110, 111, 32, 115, 117, 99, 104, 32, 116, 104, 105, 110, 103, 32, 111, 102, 32, 97, 32, 110, 111, 100, 101, 32, 97, 110, 100, 32, 97, 32, 112, 97, 99, 107, 101, 116] by decide +kernel]
  exact s_str hts hf A hA (len := 36) (ch := [110, 111, 32, 115, 117, 99, 104, 32, 116, 104, 105, 110, 103, 32, 111, 102, 32, 97, 32, 110, 111, 100, 101, 32, 97, 110, 100, 32, 97, 32, 112, 97, 99, 107, 101, 116]) (p := 322) (zt5 (List.mem_of_getElem? (i := 214) (rfl : tables_1_5[214]? = some (Cond.stringRef "RepairTalk" 178 "no such thing of a node and a packet")))) (by decide) rfl
set_option maxRecDepth 50000 in
theorem ss_18 {b : Nat} {s : State} (hts : ∀ w ∈ lw_tbl, w.before #[Value.ref b] s = true) (hf : ∀ w ∈ sfl, w.before #[Value.ref b] s = true) (A : Nat → Prop) (hA : ∀ a : Nat, a < s.heap.size → ¬ A a) : sOK A s ("RepairTalk", 427, "no such link") := by
  unfold sOK
  rw [show ("no such link" : String).length = 12 by decide, show (("no such link" : String).toList.map fun ch => nI ch.toNat) = [110, 111, 32, 115, 117, 99, 104, 32, 108, 105, 110, 107] by decide +kernel]
  exact s_str hts hf A hA (len := 12) (ch := [110, 111, 32, 115, 117, 99, 104, 32, 108, 105, 110, 107]) (p := 362) (zt5 (List.mem_of_getElem? (i := 237) (rfl : tables_1_5[237]? = some (Cond.stringRef "RepairTalk" 427 "no such link")))) (by decide) rfl
set_option maxRecDepth 50000 in
theorem ss_19 {b : Nat} {s : State} (hts : ∀ w ∈ lw_tbl, w.before #[Value.ref b] s = true) (hf : ∀ w ∈ sfl, w.before #[Value.ref b] s = true) (A : Nat → Prop) (hA : ∀ a : Nat, a < s.heap.size → ¬ A a) : sOK A s ("RepairTalk", 210, "no such thing of a link") := by
  unfold sOK
  rw [show ("no such thing of a link" : String).length = 23 by decide, show (("no such thing of a link" : String).toList.map fun ch => nI ch.toNat) = [110, 111, 32, 115, 117, 99, 104, 32, 116, 104, 105, 110, 103, 32, 111, 102, 32, 97, 32, 108, 105, 110, 107] by decide +kernel]
  exact s_str hts hf A hA (len := 23) (ch := [110, 111, 32, 115, 117, 99, 104, 32, 116, 104, 105, 110, 103, 32, 111, 102, 32, 97, 32, 108, 105, 110, 107]) (p := 378) (zt5 (List.mem_of_getElem? (i := 239) (rfl : tables_1_5[239]? = some (Cond.stringRef "RepairTalk" 210 "no such thing of a link")))) (by decide) rfl
set_option maxRecDepth 50000 in
theorem ss_20 {b : Nat} {s : State} (hts : ∀ w ∈ lw_tbl, w.before #[Value.ref b] s = true) (hf : ∀ w ∈ sfl, w.before #[Value.ref b] s = true) (A : Nat → Prop) (hA : ∀ a : Nat, a < s.heap.size → ¬ A a) : sOK A s ("RepairTalk", 223, "no such message") := by
  unfold sOK
  rw [show ("no such message" : String).length = 15 by decide, show (("no such message" : String).toList.map fun ch => nI ch.toNat) = [110, 111, 32, 115, 117, 99, 104, 32, 109, 101, 115, 115, 97, 103, 101] by decide +kernel]
  exact s_str hts hf A hA (len := 15) (ch := [110, 111, 32, 115, 117, 99, 104, 32, 109, 101, 115, 115, 97, 103, 101]) (p := 405) (zt6 (List.mem_of_getElem? (i := 7) (rfl : tables_1_6[7]? = some (Cond.stringRef "RepairTalk" 223 "no such message")))) (by decide) rfl
set_option maxRecDepth 50000 in
theorem ss_21 {b : Nat} {s : State} (hts : ∀ w ∈ lw_tbl, w.before #[Value.ref b] s = true) (hf : ∀ w ∈ sfl, w.before #[Value.ref b] s = true) (A : Nat → Prop) (hA : ∀ a : Nat, a < s.heap.size → ¬ A a) : sOK A s ("RepairTalk", 242, "no such thing of a message") := by
  unfold sOK
  rw [show ("no such thing of a message" : String).length = 26 by decide, show (("no such thing of a message" : String).toList.map fun ch => nI ch.toNat) = [110, 111, 32, 115, 117, 99, 104, 32, 116, 104, 105, 110, 103, 32, 111, 102, 32, 97, 32, 109, 101, 115, 115, 97, 103, 101] by decide +kernel]
  exact s_str hts hf A hA (len := 26) (ch := [110, 111, 32, 115, 117, 99, 104, 32, 116, 104, 105, 110, 103, 32, 111, 102, 32, 97, 32, 109, 101, 115, 115, 97, 103, 101]) (p := 424) (zt6 (List.mem_of_getElem? (i := 8) (rfl : tables_1_6[8]? = some (Cond.stringRef "RepairTalk" 242 "no such thing of a message")))) (by decide) rfl
set_option maxRecDepth 50000 in
theorem ss_22 {b : Nat} {s : State} (hts : ∀ w ∈ lw_tbl, w.before #[Value.ref b] s = true) (hf : ∀ w ∈ sfl, w.before #[Value.ref b] s = true) (A : Nat → Prop) (hA : ∀ a : Nat, a < s.heap.size → ¬ A a) : sOK A s ("RepairTalk", 244, "1 to 60 ticks") := by
  unfold sOK
  rw [show ("1 to 60 ticks" : String).length = 13 by decide, show (("1 to 60 ticks" : String).toList.map fun ch => nI ch.toNat) = [49, 32, 116, 111, 32, 54, 48, 32, 116, 105, 99, 107, 115] by decide +kernel]
  exact s_str hts hf A hA (len := 13) (ch := [49, 32, 116, 111, 32, 54, 48, 32, 116, 105, 99, 107, 115]) (p := 454) (zt6 (List.mem_of_getElem? (i := 16) (rfl : tables_1_6[16]? = some (Cond.stringRef "RepairTalk" 244 "1 to 60 ticks")))) (by decide) rfl
set_option maxRecDepth 50000 in
theorem ss_23 {b : Nat} {s : State} (hts : ∀ w ∈ lw_tbl, w.before #[Value.ref b] s = true) (hf : ∀ w ∈ sfl, w.before #[Value.ref b] s = true) (A : Nat → Prop) (hA : ∀ a : Nat, a < s.heap.size → ¬ A a) : sOK A s ("RepairTalk", 257, "the source cannot send") := by
  unfold sOK
  rw [show ("the source cannot send" : String).length = 22 by decide, show (("the source cannot send" : String).toList.map fun ch => nI ch.toNat) = [116, 104, 101, 32, 115, 111, 117, 114, 99, 101, 32, 99, 97, 110, 110, 111, 116, 32, 115, 101, 110, 100] by decide +kernel]
  exact s_str hts hf A hA (len := 22) (ch := [116, 104, 101, 32, 115, 111, 117, 114, 99, 101, 32, 99, 97, 110, 110, 111, 116, 32, 115, 101, 110, 100]) (p := 471) (zt6 (List.mem_of_getElem? (i := 35) (rfl : tables_1_6[35]? = some (Cond.stringRef "RepairTalk" 257 "the source cannot send")))) (by decide) rfl
set_option maxRecDepth 50000 in
theorem ss_24 {b : Nat} {s : State} (hts : ∀ w ∈ lw_tbl, w.before #[Value.ref b] s = true) (hf : ∀ w ∈ sfl, w.before #[Value.ref b] s = true) (A : Nat → Prop) (hA : ∀ a : Nat, a < s.heap.size → ¬ A a) : sOK A s ("RepairTalk", 272, "a loss is 0 to 100") := by
  unfold sOK
  rw [show ("a loss is 0 to 100" : String).length = 18 by decide, show (("a loss is 0 to 100" : String).toList.map fun ch => nI ch.toNat) = [97, 32, 108, 111, 115, 115, 32, 105, 115, 32, 48, 32, 116, 111, 32, 49, 48, 48] by decide +kernel]
  exact s_str hts hf A hA (len := 18) (ch := [97, 32, 108, 111, 115, 115, 32, 105, 115, 32, 48, 32, 116, 111, 32, 49, 48, 48]) (p := 497) (zt6 (List.mem_of_getElem? (i := 64) (rfl : tables_1_6[64]? = some (Cond.stringRef "RepairTalk" 272 "a loss is 0 to 100")))) (by decide) rfl
set_option maxRecDepth 50000 in
theorem ss_25 {b : Nat} {s : State} (hts : ∀ w ∈ lw_tbl, w.before #[Value.ref b] s = true) (hf : ∀ w ∈ sfl, w.before #[Value.ref b] s = true) (A : Nat → Prop) (hA : ∀ a : Nat, a < s.heap.size → ¬ A a) : sOK A s ("RepairTalk", 274, "the packet was not sent yet") := by
  unfold sOK
  rw [show ("the packet was not sent yet" : String).length = 27 by decide, show (("the packet was not sent yet" : String).toList.map fun ch => nI ch.toNat) = [116, 104, 101, 32, 112, 97, 99, 107, 101, 116, 32, 119, 97, 115, 32, 110, 111, 116, 32, 115, 101, 110, 116, 32, 121, 101, 116] by decide +kernel]
  exact s_str hts hf A hA (len := 27) (ch := [116, 104, 101, 32, 112, 97, 99, 107, 101, 116, 32, 119, 97, 115, 32, 110, 111, 116, 32, 115, 101, 110, 116, 32, 121, 101, 116]) (p := 519) (zt6 (List.mem_of_getElem? (i := 72) (rfl : tables_1_6[72]? = some (Cond.stringRef "RepairTalk" 274 "the packet was not sent yet")))) (by decide) rfl
set_option maxRecDepth 50000 in
theorem ss_26 {b : Nat} {s : State} (hts : ∀ w ∈ lw_tbl, w.before #[Value.ref b] s = true) (hf : ∀ w ∈ sfl, w.before #[Value.ref b] s = true) (A : Nat → Prop) (hA : ∀ a : Nat, a < s.heap.size → ¬ A a) : sOK A s ("RepairTalk", 431, "a scope is 0 to 5") := by
  unfold sOK
  rw [show ("a scope is 0 to 5" : String).length = 17 by decide, show (("a scope is 0 to 5" : String).toList.map fun ch => nI ch.toNat) = [97, 32, 115, 99, 111, 112, 101, 32, 105, 115, 32, 48, 32, 116, 111, 32, 53] by decide +kernel]
  exact s_str hts hf A hA (len := 17) (ch := [97, 32, 115, 99, 111, 112, 101, 32, 105, 115, 32, 48, 32, 116, 111, 32, 53]) (p := 550) (zt6 (List.mem_of_getElem? (i := 135) (rfl : tables_1_6[135]? = some (Cond.stringRef "RepairTalk" 431 "a scope is 0 to 5")))) (by decide) rfl
set_option maxRecDepth 50000 in
theorem ss_27 {b : Nat} {s : State} (hts : ∀ w ∈ lw_tbl, w.before #[Value.ref b] s = true) (hf : ∀ w ∈ sfl, w.before #[Value.ref b] s = true) (A : Nat → Prop) (hA : ∀ a : Nat, a < s.heap.size → ¬ A a) : sOK A s ("RepairTalk", 324, "0 to 120 ticks ahead") := by
  unfold sOK
  rw [show ("0 to 120 ticks ahead" : String).length = 20 by decide, show (("0 to 120 ticks ahead" : String).toList.map fun ch => nI ch.toNat) = [48, 32, 116, 111, 32, 49, 50, 48, 32, 116, 105, 99, 107, 115, 32, 97, 104, 101, 97, 100] by decide +kernel]
  exact s_str hts hf A hA (len := 20) (ch := [48, 32, 116, 111, 32, 49, 50, 48, 32, 116, 105, 99, 107, 115, 32, 97, 104, 101, 97, 100]) (p := 571) (zt6 (List.mem_of_getElem? (i := 154) (rfl : tables_1_6[154]? = some (Cond.stringRef "RepairTalk" 324 "0 to 120 ticks ahead")))) (by decide) rfl
set_option maxRecDepth 50000 in
theorem ss_28 {b : Nat} {s : State} (hts : ∀ w ∈ lw_tbl, w.before #[Value.ref b] s = true) (hf : ∀ w ∈ sfl, w.before #[Value.ref b] s = true) (A : Nat → Prop) (hA : ∀ a : Nat, a < s.heap.size → ¬ A a) : sOK A s ("RepairTalk", 356, "0 to 20 ticks ahead") := by
  unfold sOK
  rw [show ("0 to 20 ticks ahead" : String).length = 19 by decide, show (("0 to 20 ticks ahead" : String).toList.map fun ch => nI ch.toNat) = [48, 32, 116, 111, 32, 50, 48, 32, 116, 105, 99, 107, 115, 32, 97, 104, 101, 97, 100] by decide +kernel]
  exact s_str hts hf A hA (len := 19) (ch := [48, 32, 116, 111, 32, 50, 48, 32, 116, 105, 99, 107, 115, 32, 97, 104, 101, 97, 100]) (p := 595) (zt6 (List.mem_of_getElem? (i := 239) (rfl : tables_1_6[239]? = some (Cond.stringRef "RepairTalk" 356 "0 to 20 ticks ahead")))) (by decide) rfl
set_option maxRecDepth 50000 in
theorem ss_29 {b : Nat} {s : State} (hts : ∀ w ∈ lw_tbl, w.before #[Value.ref b] s = true) (hf : ∀ w ∈ sfl, w.before #[Value.ref b] s = true) (A : Nat → Prop) (hA : ∀ a : Nat, a < s.heap.size → ¬ A a) : sOK A s ("RepairTalk", 369, "no such thing of a row") := by
  unfold sOK
  rw [show ("no such thing of a row" : String).length = 22 by decide, show (("no such thing of a row" : String).toList.map fun ch => nI ch.toNat) = [110, 111, 32, 115, 117, 99, 104, 32, 116, 104, 105, 110, 103, 32, 111, 102, 32, 97, 32, 114, 111, 119] by decide +kernel]
  exact s_str hts hf A hA (len := 22) (ch := [110, 111, 32, 115, 117, 99, 104, 32, 116, 104, 105, 110, 103, 32, 111, 102, 32, 97, 32, 114, 111, 119]) (p := 618) (zt7 (List.mem_of_getElem? (i := 32) (rfl : tables_1_7[32]? = some (Cond.stringRef "RepairTalk" 369 "no such thing of a row")))) (by decide) rfl
set_option maxRecDepth 50000 in
theorem ss_30 {b : Nat} {s : State} (hts : ∀ w ∈ lw_tbl, w.before #[Value.ref b] s = true) (hf : ∀ w ∈ sfl, w.before #[Value.ref b] s = true) (A : Nat → Prop) (hA : ∀ a : Nat, a < s.heap.size → ¬ A a) : sOK A s ("RepairTalkModel", 156, "node") := by
  unfold sOK
  rw [show ("node" : String).length = 4 by decide, show (("node" : String).toList.map fun ch => nI ch.toNat) = [110, 111, 100, 101] by decide +kernel]
  exact s_str hts hf A hA (len := 4) (ch := [110, 111, 100, 101]) (p := 644) (zt7 (List.mem_of_getElem? (i := 150) (rfl : tables_1_7[150]? = some (Cond.stringRef "RepairTalkModel" 156 "node")))) (by decide) rfl
set_option maxRecDepth 50000 in
theorem ss_31 {b : Nat} {s : State} (hts : ∀ w ∈ lw_tbl, w.before #[Value.ref b] s = true) (hf : ∀ w ∈ sfl, w.before #[Value.ref b] s = true) (A : Nat → Prop) (hA : ∀ a : Nat, a < s.heap.size → ¬ A a) : sOK A s ("RepairTalkModel", 123, "down") := by
  unfold sOK
  rw [show ("down" : String).length = 4 by decide, show (("down" : String).toList.map fun ch => nI ch.toNat) = [100, 111, 119, 110] by decide +kernel]
  exact s_str hts hf A hA (len := 4) (ch := [100, 111, 119, 110]) (p := 653) (zt7 (List.mem_of_getElem? (i := 168) (rfl : tables_1_7[168]? = some (Cond.stringRef "RepairTalkModel" 123 "down")))) (by decide) rfl
set_option maxRecDepth 50000 in
theorem ss_32 {b : Nat} {s : State} (hts : ∀ w ∈ lw_tbl, w.before #[Value.ref b] s = true) (hf : ∀ w ∈ sfl, w.before #[Value.ref b] s = true) (A : Nat → Prop) (hA : ∀ a : Nat, a < s.heap.size → ¬ A a) : sOK A s ("RepairTalkModel", 162, "link") := by
  unfold sOK
  rw [show ("link" : String).length = 4 by decide, show (("link" : String).toList.map fun ch => nI ch.toNat) = [108, 105, 110, 107] by decide +kernel]
  exact s_str hts hf A hA (len := 4) (ch := [108, 105, 110, 107]) (p := 662) (zt7 (List.mem_of_getElem? (i := 187) (rfl : tables_1_7[187]? = some (Cond.stringRef "RepairTalkModel" 162 "link")))) (by decide) rfl
set_option maxRecDepth 50000 in
theorem ss_33 {b : Nat} {s : State} (hts : ∀ w ∈ lw_tbl, w.before #[Value.ref b] s = true) (hf : ∀ w ∈ sfl, w.before #[Value.ref b] s = true) (A : Nat → Prop) (hA : ∀ a : Nat, a < s.heap.size → ¬ A a) : sOK A s ("RepairTalkModel", 145, "delay") := by
  unfold sOK
  rw [show ("delay" : String).length = 5 by decide, show (("delay" : String).toList.map fun ch => nI ch.toNat) = [100, 101, 108, 97, 121] by decide +kernel]
  exact s_str hts hf A hA (len := 5) (ch := [100, 101, 108, 97, 121]) (p := 671) (zt7 (List.mem_of_getElem? (i := 211) (rfl : tables_1_7[211]? = some (Cond.stringRef "RepairTalkModel" 145 "delay")))) (by decide) rfl
set_option maxRecDepth 50000 in
theorem ss_34 {b : Nat} {s : State} (hts : ∀ w ∈ lw_tbl, w.before #[Value.ref b] s = true) (hf : ∀ w ∈ sfl, w.before #[Value.ref b] s = true) (A : Nat → Prop) (hA : ∀ a : Nat, a < s.heap.size → ¬ A a) : sOK A s ("RepairTalkModel", 151, "loss") := by
  unfold sOK
  rw [show ("loss" : String).length = 4 by decide, show (("loss" : String).toList.map fun ch => nI ch.toNat) = [108, 111, 115, 115] by decide +kernel]
  exact s_str hts hf A hA (len := 4) (ch := [108, 111, 115, 115]) (p := 681) (zt7 (List.mem_of_getElem? (i := 216) (rfl : tables_1_7[216]? = some (Cond.stringRef "RepairTalkModel" 151 "loss")))) (by decide) rfl
set_option maxRecDepth 50000 in
theorem ss_35 {b : Nat} {s : State} (hts : ∀ w ∈ lw_tbl, w.before #[Value.ref b] s = true) (hf : ∀ w ∈ sfl, w.before #[Value.ref b] s = true) (A : Nat → Prop) (hA : ∀ a : Nat, a < s.heap.size → ¬ A a) : sOK A s ("RepairTalkModel", 167, "source") := by
  unfold sOK
  rw [show ("source" : String).length = 6 by decide, show (("source" : String).toList.map fun ch => nI ch.toNat) = [115, 111, 117, 114, 99, 101] by decide +kernel]
  exact s_str hts hf A hA (len := 6) (ch := [115, 111, 117, 114, 99, 101]) (p := 690) (zt7 (List.mem_of_getElem? (i := 217) (rfl : tables_1_7[217]? = some (Cond.stringRef "RepairTalkModel" 167 "source")))) (by decide) rfl
set_option maxRecDepth 50000 in
theorem ss_36 {b : Nat} {s : State} (hts : ∀ w ∈ lw_tbl, w.before #[Value.ref b] s = true) (hf : ∀ w ∈ sfl, w.before #[Value.ref b] s = true) (A : Nat → Prop) (hA : ∀ a : Nat, a < s.heap.size → ¬ A a) : sOK A s ("RepairTalkModel", 169, "request") := by
  unfold sOK
  rw [show ("request" : String).length = 7 by decide, show (("request" : String).toList.map fun ch => nI ch.toNat) = [114, 101, 113, 117, 101, 115, 116] by decide +kernel]
  exact s_str hts hf A hA (len := 7) (ch := [114, 101, 113, 117, 101, 115, 116]) (p := 701) (zt7 (List.mem_of_getElem? (i := 222) (rfl : tables_1_7[222]? = some (Cond.stringRef "RepairTalkModel" 169 "request")))) (by decide) rfl
set_option maxRecDepth 50000 in
theorem ss_37 {b : Nat} {s : State} (hts : ∀ w ∈ lw_tbl, w.before #[Value.ref b] s = true) (hf : ∀ w ∈ sfl, w.before #[Value.ref b] s = true) (A : Nat → Prop) (hA : ∀ a : Nat, a < s.heap.size → ¬ A a) : sOK A s ("RepairTalkModel", 174, "repair") := by
  unfold sOK
  rw [show ("repair" : String).length = 6 by decide, show (("repair" : String).toList.map fun ch => nI ch.toNat) = [114, 101, 112, 97, 105, 114] by decide +kernel]
  exact s_str hts hf A hA (len := 6) (ch := [114, 101, 112, 97, 105, 114]) (p := 713) (zt7 (List.mem_of_getElem? (i := 227) (rfl : tables_1_7[227]? = some (Cond.stringRef "RepairTalkModel" 174 "repair")))) (by decide) rfl
set_option maxRecDepth 50000 in
theorem ss_38 {b : Nat} {s : State} (hts : ∀ w ∈ lw_tbl, w.before #[Value.ref b] s = true) (hf : ∀ w ∈ sfl, w.before #[Value.ref b] s = true) (A : Nat → Prop) (hA : ∀ a : Nat, a < s.heap.size → ¬ A a) : sOK A s ("RepairTalkModel", 176, "scope") := by
  unfold sOK
  rw [show ("scope" : String).length = 5 by decide, show (("scope" : String).toList.map fun ch => nI ch.toNat) = [115, 99, 111, 112, 101] by decide +kernel]
  exact s_str hts hf A hA (len := 5) (ch := [115, 99, 111, 112, 101]) (p := 724) (zt7 (List.mem_of_getElem? (i := 228) (rfl : tables_1_7[228]? = some (Cond.stringRef "RepairTalkModel" 176 "scope")))) (by decide) rfl
set_option maxRecDepth 50000 in
theorem ss_39 {b : Nat} {s : State} (hts : ∀ w ∈ lw_tbl, w.before #[Value.ref b] s = true) (hf : ∀ w ∈ sfl, w.before #[Value.ref b] s = true) (A : Nat → Prop) (hA : ∀ a : Nat, a < s.heap.size → ¬ A a) : sOK A s ("RepairTalkModel", 178, "session") := by
  unfold sOK
  rw [show ("session" : String).length = 7 by decide, show (("session" : String).toList.map fun ch => nI ch.toNat) = [115, 101, 115, 115, 105, 111, 110] by decide +kernel]
  exact s_str hts hf A hA (len := 7) (ch := [115, 101, 115, 115, 105, 111, 110]) (p := 734) (zt7 (List.mem_of_getElem? (i := 229) (rfl : tables_1_7[229]? = some (Cond.stringRef "RepairTalkModel" 178 "session")))) (by decide) rfl
set_option maxRecDepth 50000 in
theorem ss_40 {b : Nat} {s : State} (hts : ∀ w ∈ lw_tbl, w.before #[Value.ref b] s = true) (hf : ∀ w ∈ sfl, w.before #[Value.ref b] s = true) (A : Nat → Prop) (hA : ∀ a : Nat, a < s.heap.size → ¬ A a) : sOK A s ("RepairTalkModel", 180, "rate") := by
  unfold sOK
  rw [show ("rate" : String).length = 4 by decide, show (("rate" : String).toList.map fun ch => nI ch.toNat) = [114, 97, 116, 101] by decide +kernel]
  exact s_str hts hf A hA (len := 4) (ch := [114, 97, 116, 101]) (p := 746) (zt7 (List.mem_of_getElem? (i := 230) (rfl : tables_1_7[230]? = some (Cond.stringRef "RepairTalkModel" 180 "rate")))) (by decide) rfl
theorem ss_all {b : Nat} {s : State} (hts : ∀ w ∈ lw_tbl, w.before #[Value.ref b] s = true) (hf : ∀ w ∈ sfl, w.before #[Value.ref b] s = true) (A : Nat → Prop) (hA : ∀ a : Nat, a < s.heap.size → ¬ A a) : ∀ (i : Nat) (q : String × Nat × String), zstr[i]? = some q → sOK A s q := by
  intro i q h
  match i, h with
  | 0, h => cases h; exact ss_0 hts hf A hA
  | 1, h => cases h; exact ss_1 hts hf A hA
  | 2, h => cases h; exact ss_2 hts hf A hA
  | 3, h => cases h; exact ss_3 hts hf A hA
  | 4, h => cases h; exact ss_4 hts hf A hA
  | 5, h => cases h; exact ss_5 hts hf A hA
  | 6, h => cases h; exact ss_6 hts hf A hA
  | 7, h => cases h; exact ss_7 hts hf A hA
  | 8, h => cases h; exact ss_8 hts hf A hA
  | 9, h => cases h; exact ss_9 hts hf A hA
  | 10, h => cases h; exact ss_10 hts hf A hA
  | 11, h => cases h; exact ss_11 hts hf A hA
  | 12, h => cases h; exact ss_12 hts hf A hA
  | 13, h => cases h; exact ss_13 hts hf A hA
  | 14, h => cases h; exact ss_14 hts hf A hA
  | 15, h => cases h; exact ss_15 hts hf A hA
  | 16, h => cases h; exact ss_16 hts hf A hA
  | 17, h => cases h; exact ss_17 hts hf A hA
  | 18, h => cases h; exact ss_18 hts hf A hA
  | 19, h => cases h; exact ss_19 hts hf A hA
  | 20, h => cases h; exact ss_20 hts hf A hA
  | 21, h => cases h; exact ss_21 hts hf A hA
  | 22, h => cases h; exact ss_22 hts hf A hA
  | 23, h => cases h; exact ss_23 hts hf A hA
  | 24, h => cases h; exact ss_24 hts hf A hA
  | 25, h => cases h; exact ss_25 hts hf A hA
  | 26, h => cases h; exact ss_26 hts hf A hA
  | 27, h => cases h; exact ss_27 hts hf A hA
  | 28, h => cases h; exact ss_28 hts hf A hA
  | 29, h => cases h; exact ss_29 hts hf A hA
  | 30, h => cases h; exact ss_30 hts hf A hA
  | 31, h => cases h; exact ss_31 hts hf A hA
  | 32, h => cases h; exact ss_32 hts hf A hA
  | 33, h => cases h; exact ss_33 hts hf A hA
  | 34, h => cases h; exact ss_34 hts hf A hA
  | 35, h => cases h; exact ss_35 hts hf A hA
  | 36, h => cases h; exact ss_36 hts hf A hA
  | 37, h => cases h; exact ss_37 hts hf A hA
  | 38, h => cases h; exact ss_38 hts hf A hA
  | 39, h => cases h; exact ss_39 hts hf A hA
  | 40, h => cases h; exact ss_40 hts hf A hA
  | n + 41, h => simp [zstr] at h
