def cK : Class := { start1.cArr "[K" 14 .int with interfaces := #[13], methods := #[Lib.HandJ.method "clone" "()Ljava/lang/Object;" [] (some (.object "java/lang/Object")) 0x1 1 kcode] }
def about3 : State := { start1.aboutOf #[] with heap := (start1.aboutOf #[]).heap.modify 2 (fun c => { c with cls := 23 }), vm := { (start1.aboutOf #[]).vm with classes := (start1.aboutOf #[]).vm.classes.push cK } }
theorem find3 {n : String} {c : ClassId} (h : start1.about.vm.findClass n = some c) : about3.vm.findClass n = some c := by
  show ((start1.about.vm.classes.push cK).findIdx? _) = some c
  rw [Array.findIdx?_push]
  have h2 : (start1.about.vm.classes.findIdx? fun k => k.name == n && k.hidden.isNone && (match k.kind with | .primitive _ => false | _ => true) && (match (none : Option Addr) with | none => k.loader.isNone | some l => k.initiators.contains l)) = some c := h
  exact (congrArg (fun q => Option.or q _) h2).trans rfl
theorem class3 {c : ClassId} {k : Class} (h : start1.about.vm.classes[c]? = some k) : about3.vm.classes[c]? = some k := by
  show (start1.about.vm.classes.push cK)[c]? = some k
  rw [Array.getElem?_push, if_neg (Nat.ne_of_lt (Array.getElem?_eq_some_iff.mp h).1)]
  exact h
set_option maxRecDepth 100000 in
theorem oth_1_0 : (((tables_1_1.drop 0).take 40).all (fun c => su_isCode c || c.before start1.args0 about3)) = true := by decide +kernel
set_option maxRecDepth 100000 in
theorem oth_1_1 : (((tables_1_1.drop 40).take 40).all (fun c => su_isCode c || c.before start1.args0 about3)) = true := by decide +kernel
set_option maxRecDepth 100000 in
theorem oth_1_2 : (((tables_1_1.drop 80).take 40).all (fun c => su_isCode c || c.before start1.args0 about3)) = true := by decide +kernel
set_option maxRecDepth 100000 in
theorem oth_1_3 : (((tables_1_1.drop 120).take 40).all (fun c => su_isCode c || c.before start1.args0 about3)) = true := by decide +kernel
set_option maxRecDepth 100000 in
theorem oth_1_4 : (((tables_1_1.drop 160).take 40).all (fun c => su_isCode c || c.before start1.args0 about3)) = true := by decide +kernel
set_option maxRecDepth 100000 in
theorem oth_1_5 : (((tables_1_1.drop 200).take 40).all (fun c => su_isCode c || c.before start1.args0 about3)) = true := by decide +kernel
set_option maxRecDepth 100000 in
theorem oth_1_6 : (((tables_1_1.drop 240).take 40).all (fun c => su_isCode c || c.before start1.args0 about3)) = true := by decide +kernel
theorem len_1 : tables_1_1.length ≤ 280 := by decide +kernel
theorem oth_1 : tables_1_1.all (fun c => su_isCode c || c.before start1.args0 about3) = true := by
  refine List.all_eq_true.mpr fun c hc => ?_
  obtain ⟨q, hq⟩ := List.getElem?_of_mem hc
  have hl : q < 280 := Nat.lt_of_lt_of_le (List.getElem?_eq_some_iff.mp hq).1 len_1
  have key : ∀ j, 40 * j ≤ q → q < 40 * j + 40 → c ∈ (tables_1_1.drop (40 * j)).take 40 := fun j h1 h2 => List.mem_of_getElem? (i := q - 40 * j) (by rw [List.getElem?_take, if_pos (by omega), List.getElem?_drop, show 40 * j + (q - 40 * j) = q by omega]; exact hq)
  have hj : (40 * 0 ≤ q ∧ q < 40 * 0 + 40) ∨ (40 * 1 ≤ q ∧ q < 40 * 1 + 40) ∨ (40 * 2 ≤ q ∧ q < 40 * 2 + 40) ∨ (40 * 3 ≤ q ∧ q < 40 * 3 + 40) ∨ (40 * 4 ≤ q ∧ q < 40 * 4 + 40) ∨ (40 * 5 ≤ q ∧ q < 40 * 5 + 40) ∨ (40 * 6 ≤ q ∧ q < 40 * 6 + 40) := by omega
  rcases hj with ⟨a, b⟩ | ⟨a, b⟩ | ⟨a, b⟩ | ⟨a, b⟩ | ⟨a, b⟩ | ⟨a, b⟩ | ⟨a, b⟩
  · exact List.all_eq_true.mp oth_1_0 c (key 0 a b)
  · exact List.all_eq_true.mp oth_1_1 c (key 1 a b)
  · exact List.all_eq_true.mp oth_1_2 c (key 2 a b)
  · exact List.all_eq_true.mp oth_1_3 c (key 3 a b)
  · exact List.all_eq_true.mp oth_1_4 c (key 4 a b)
  · exact List.all_eq_true.mp oth_1_5 c (key 5 a b)
  · exact List.all_eq_true.mp oth_1_6 c (key 6 a b)
set_option maxRecDepth 100000 in
theorem oth_2_0 : (((tables_1_2.drop 0).take 40).all (fun c => su_isCode c || c.before start1.args0 about3)) = true := by decide +kernel
set_option maxRecDepth 100000 in
theorem oth_2_1 : (((tables_1_2.drop 40).take 40).all (fun c => su_isCode c || c.before start1.args0 about3)) = true := by decide +kernel
set_option maxRecDepth 100000 in
theorem oth_2_2 : (((tables_1_2.drop 80).take 40).all (fun c => su_isCode c || c.before start1.args0 about3)) = true := by decide +kernel
set_option maxRecDepth 100000 in
theorem oth_2_3 : (((tables_1_2.drop 120).take 40).all (fun c => su_isCode c || c.before start1.args0 about3)) = true := by decide +kernel
set_option maxRecDepth 100000 in
theorem oth_2_4 : (((tables_1_2.drop 160).take 40).all (fun c => su_isCode c || c.before start1.args0 about3)) = true := by decide +kernel
set_option maxRecDepth 100000 in
theorem oth_2_5 : (((tables_1_2.drop 200).take 40).all (fun c => su_isCode c || c.before start1.args0 about3)) = true := by decide +kernel
set_option maxRecDepth 100000 in
theorem oth_2_6 : (((tables_1_2.drop 240).take 40).all (fun c => su_isCode c || c.before start1.args0 about3)) = true := by decide +kernel
theorem len_2 : tables_1_2.length ≤ 280 := by decide +kernel
theorem oth_2 : tables_1_2.all (fun c => su_isCode c || c.before start1.args0 about3) = true := by
  refine List.all_eq_true.mpr fun c hc => ?_
  obtain ⟨q, hq⟩ := List.getElem?_of_mem hc
  have hl : q < 280 := Nat.lt_of_lt_of_le (List.getElem?_eq_some_iff.mp hq).1 len_2
  have key : ∀ j, 40 * j ≤ q → q < 40 * j + 40 → c ∈ (tables_1_2.drop (40 * j)).take 40 := fun j h1 h2 => List.mem_of_getElem? (i := q - 40 * j) (by rw [List.getElem?_take, if_pos (by omega), List.getElem?_drop, show 40 * j + (q - 40 * j) = q by omega]; exact hq)
  have hj : (40 * 0 ≤ q ∧ q < 40 * 0 + 40) ∨ (40 * 1 ≤ q ∧ q < 40 * 1 + 40) ∨ (40 * 2 ≤ q ∧ q < 40 * 2 + 40) ∨ (40 * 3 ≤ q ∧ q < 40 * 3 + 40) ∨ (40 * 4 ≤ q ∧ q < 40 * 4 + 40) ∨ (40 * 5 ≤ q ∧ q < 40 * 5 + 40) ∨ (40 * 6 ≤ q ∧ q < 40 * 6 + 40) := by omega
  rcases hj with ⟨a, b⟩ | ⟨a, b⟩ | ⟨a, b⟩ | ⟨a, b⟩ | ⟨a, b⟩ | ⟨a, b⟩ | ⟨a, b⟩
  · exact List.all_eq_true.mp oth_2_0 c (key 0 a b)
  · exact List.all_eq_true.mp oth_2_1 c (key 1 a b)
  · exact List.all_eq_true.mp oth_2_2 c (key 2 a b)
  · exact List.all_eq_true.mp oth_2_3 c (key 3 a b)
  · exact List.all_eq_true.mp oth_2_4 c (key 4 a b)
  · exact List.all_eq_true.mp oth_2_5 c (key 5 a b)
  · exact List.all_eq_true.mp oth_2_6 c (key 6 a b)
set_option maxRecDepth 100000 in
theorem oth_3_0 : (((tables_1_3.drop 0).take 40).all (fun c => su_isCode c || c.before start1.args0 about3)) = true := by decide +kernel
set_option maxRecDepth 100000 in
theorem oth_3_1 : (((tables_1_3.drop 40).take 40).all (fun c => su_isCode c || c.before start1.args0 about3)) = true := by decide +kernel
set_option maxRecDepth 100000 in
theorem oth_3_2 : (((tables_1_3.drop 80).take 40).all (fun c => su_isCode c || c.before start1.args0 about3)) = true := by decide +kernel
set_option maxRecDepth 100000 in
theorem oth_3_3 : (((tables_1_3.drop 120).take 40).all (fun c => su_isCode c || c.before start1.args0 about3)) = true := by decide +kernel
set_option maxRecDepth 100000 in
theorem oth_3_4 : (((tables_1_3.drop 160).take 40).all (fun c => su_isCode c || c.before start1.args0 about3)) = true := by decide +kernel
set_option maxRecDepth 100000 in
theorem oth_3_5 : (((tables_1_3.drop 200).take 40).all (fun c => su_isCode c || c.before start1.args0 about3)) = true := by decide +kernel
set_option maxRecDepth 100000 in
theorem oth_3_6 : (((tables_1_3.drop 240).take 40).all (fun c => su_isCode c || c.before start1.args0 about3)) = true := by decide +kernel
theorem len_3 : tables_1_3.length ≤ 280 := by decide +kernel
theorem oth_3 : tables_1_3.all (fun c => su_isCode c || c.before start1.args0 about3) = true := by
  refine List.all_eq_true.mpr fun c hc => ?_
  obtain ⟨q, hq⟩ := List.getElem?_of_mem hc
  have hl : q < 280 := Nat.lt_of_lt_of_le (List.getElem?_eq_some_iff.mp hq).1 len_3
  have key : ∀ j, 40 * j ≤ q → q < 40 * j + 40 → c ∈ (tables_1_3.drop (40 * j)).take 40 := fun j h1 h2 => List.mem_of_getElem? (i := q - 40 * j) (by rw [List.getElem?_take, if_pos (by omega), List.getElem?_drop, show 40 * j + (q - 40 * j) = q by omega]; exact hq)
  have hj : (40 * 0 ≤ q ∧ q < 40 * 0 + 40) ∨ (40 * 1 ≤ q ∧ q < 40 * 1 + 40) ∨ (40 * 2 ≤ q ∧ q < 40 * 2 + 40) ∨ (40 * 3 ≤ q ∧ q < 40 * 3 + 40) ∨ (40 * 4 ≤ q ∧ q < 40 * 4 + 40) ∨ (40 * 5 ≤ q ∧ q < 40 * 5 + 40) ∨ (40 * 6 ≤ q ∧ q < 40 * 6 + 40) := by omega
  rcases hj with ⟨a, b⟩ | ⟨a, b⟩ | ⟨a, b⟩ | ⟨a, b⟩ | ⟨a, b⟩ | ⟨a, b⟩ | ⟨a, b⟩
  · exact List.all_eq_true.mp oth_3_0 c (key 0 a b)
  · exact List.all_eq_true.mp oth_3_1 c (key 1 a b)
  · exact List.all_eq_true.mp oth_3_2 c (key 2 a b)
  · exact List.all_eq_true.mp oth_3_3 c (key 3 a b)
  · exact List.all_eq_true.mp oth_3_4 c (key 4 a b)
  · exact List.all_eq_true.mp oth_3_5 c (key 5 a b)
  · exact List.all_eq_true.mp oth_3_6 c (key 6 a b)
set_option maxRecDepth 100000 in
theorem oth_4_0 : (((tables_1_4.drop 0).take 40).all (fun c => su_isCode c || c.before start1.args0 about3)) = true := by decide +kernel
set_option maxRecDepth 100000 in
theorem oth_4_1 : (((tables_1_4.drop 40).take 40).all (fun c => su_isCode c || c.before start1.args0 about3)) = true := by decide +kernel
set_option maxRecDepth 100000 in
theorem oth_4_2 : (((tables_1_4.drop 80).take 40).all (fun c => su_isCode c || c.before start1.args0 about3)) = true := by decide +kernel
set_option maxRecDepth 100000 in
theorem oth_4_3 : (((tables_1_4.drop 120).take 40).all (fun c => su_isCode c || c.before start1.args0 about3)) = true := by decide +kernel
set_option maxRecDepth 100000 in
theorem oth_4_4 : (((tables_1_4.drop 160).take 40).all (fun c => su_isCode c || c.before start1.args0 about3)) = true := by decide +kernel
set_option maxRecDepth 100000 in
theorem oth_4_5 : (((tables_1_4.drop 200).take 40).all (fun c => su_isCode c || c.before start1.args0 about3)) = true := by decide +kernel
set_option maxRecDepth 100000 in
theorem oth_4_6 : (((tables_1_4.drop 240).take 40).all (fun c => su_isCode c || c.before start1.args0 about3)) = true := by decide +kernel
theorem len_4 : tables_1_4.length ≤ 280 := by decide +kernel
theorem oth_4 : tables_1_4.all (fun c => su_isCode c || c.before start1.args0 about3) = true := by
  refine List.all_eq_true.mpr fun c hc => ?_
  obtain ⟨q, hq⟩ := List.getElem?_of_mem hc
  have hl : q < 280 := Nat.lt_of_lt_of_le (List.getElem?_eq_some_iff.mp hq).1 len_4
  have key : ∀ j, 40 * j ≤ q → q < 40 * j + 40 → c ∈ (tables_1_4.drop (40 * j)).take 40 := fun j h1 h2 => List.mem_of_getElem? (i := q - 40 * j) (by rw [List.getElem?_take, if_pos (by omega), List.getElem?_drop, show 40 * j + (q - 40 * j) = q by omega]; exact hq)
  have hj : (40 * 0 ≤ q ∧ q < 40 * 0 + 40) ∨ (40 * 1 ≤ q ∧ q < 40 * 1 + 40) ∨ (40 * 2 ≤ q ∧ q < 40 * 2 + 40) ∨ (40 * 3 ≤ q ∧ q < 40 * 3 + 40) ∨ (40 * 4 ≤ q ∧ q < 40 * 4 + 40) ∨ (40 * 5 ≤ q ∧ q < 40 * 5 + 40) ∨ (40 * 6 ≤ q ∧ q < 40 * 6 + 40) := by omega
  rcases hj with ⟨a, b⟩ | ⟨a, b⟩ | ⟨a, b⟩ | ⟨a, b⟩ | ⟨a, b⟩ | ⟨a, b⟩ | ⟨a, b⟩
  · exact List.all_eq_true.mp oth_4_0 c (key 0 a b)
  · exact List.all_eq_true.mp oth_4_1 c (key 1 a b)
  · exact List.all_eq_true.mp oth_4_2 c (key 2 a b)
  · exact List.all_eq_true.mp oth_4_3 c (key 3 a b)
  · exact List.all_eq_true.mp oth_4_4 c (key 4 a b)
  · exact List.all_eq_true.mp oth_4_5 c (key 5 a b)
  · exact List.all_eq_true.mp oth_4_6 c (key 6 a b)

