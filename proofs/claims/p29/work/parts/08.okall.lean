/-! 08 ALL ROWS ARE CHECKED (written by wip/p29/gen_ok.py) -/
set_option maxRecDepth 100000 in
theorem okb_0_0 : okBk 0 0 = true := by decide +kernel
set_option maxRecDepth 100000 in
theorem okb_0_1 : okBk 0 1 = true := by decide +kernel
set_option maxRecDepth 100000 in
theorem okb_0_2 : okBk 0 2 = true := by decide +kernel
set_option maxRecDepth 100000 in
theorem okb_0_3 : okBk 0 3 = true := by decide +kernel
set_option maxRecDepth 100000 in
theorem okb_0_4 : okBk 0 4 = true := by decide +kernel
set_option maxRecDepth 100000 in
theorem okb_0_5 : okBk 0 5 = true := by decide +kernel
set_option maxRecDepth 100000 in
theorem okb_0_6 : okBk 0 6 = true := by decide +kernel
set_option maxRecDepth 100000 in
theorem okb_0_7 : okBk 0 7 = true := by decide +kernel
set_option maxRecDepth 100000 in
theorem okb_0_8 : okBk 0 8 = true := by decide +kernel
set_option maxRecDepth 100000 in
theorem okb_0_9 : okBk 0 9 = true := by decide +kernel
set_option maxRecDepth 100000 in
theorem okb_0_10 : okBk 0 10 = true := by decide +kernel
set_option maxRecDepth 100000 in
theorem okb_0_11 : okBk 0 11 = true := by decide +kernel
set_option maxRecDepth 100000 in
theorem okb_0_12 : okBk 0 12 = true := by decide +kernel
set_option maxRecDepth 100000 in
theorem okb_0_13 : okBk 0 13 = true := by decide +kernel
set_option maxRecDepth 100000 in
theorem okb_0_14 : okBk 0 14 = true := by decide +kernel
set_option maxRecDepth 100000 in
theorem okb_0_15 : okBk 0 15 = true := by decide +kernel
set_option maxRecDepth 100000 in
theorem okb_0_16 : okBk 0 16 = true := by decide +kernel
set_option maxRecDepth 100000 in
theorem okb_0_17 : okBk 0 17 = true := by decide +kernel
set_option maxRecDepth 100000 in
theorem okb_0_18 : okBk 0 18 = true := by decide +kernel
set_option maxRecDepth 100000 in
theorem okb_0_19 : okBk 0 19 = true := by decide +kernel
set_option maxRecDepth 100000 in
theorem okb_0_20 : okBk 0 20 = true := by decide +kernel
set_option maxRecDepth 100000 in
theorem okb_0_21 : okBk 0 21 = true := by decide +kernel
set_option maxRecDepth 100000 in
theorem okb_0_22 : okBk 0 22 = true := by decide +kernel
set_option maxRecDepth 100000 in
theorem okb_0_23 : okBk 0 23 = true := by decide +kernel
set_option maxRecDepth 100000 in
theorem okb_0_24 : okBk 0 24 = true := by decide +kernel
set_option maxRecDepth 100000 in
theorem okb_0_25 : okBk 0 25 = true := by decide +kernel
set_option maxRecDepth 100000 in
theorem okb_0_26 : okBk 0 26 = true := by decide +kernel
set_option maxRecDepth 100000 in
theorem okb_0_27 : okBk 0 27 = true := by decide +kernel
set_option maxRecDepth 100000 in
theorem okb_0_28 : okBk 0 28 = true := by decide +kernel
set_option maxRecDepth 100000 in
theorem okb_0_29 : okBk 0 29 = true := by decide +kernel
set_option maxRecDepth 100000 in
theorem okb_0_30 : okBk 0 30 = true := by decide +kernel
theorem ok_0 : ∀ k, okBk 0 k = true := fun k => match k with
  | 0 => okb_0_0
  | 1 => okb_0_1
  | 2 => okb_0_2
  | 3 => okb_0_3
  | 4 => okb_0_4
  | 5 => okb_0_5
  | 6 => okb_0_6
  | 7 => okb_0_7
  | 8 => okb_0_8
  | 9 => okb_0_9
  | 10 => okb_0_10
  | 11 => okb_0_11
  | 12 => okb_0_12
  | 13 => okb_0_13
  | 14 => okb_0_14
  | 15 => okb_0_15
  | 16 => okb_0_16
  | 17 => okb_0_17
  | 18 => okb_0_18
  | 19 => okb_0_19
  | 20 => okb_0_20
  | 21 => okb_0_21
  | 22 => okb_0_22
  | 23 => okb_0_23
  | 24 => okb_0_24
  | 25 => okb_0_25
  | 26 => okb_0_26
  | 27 => okb_0_27
  | 28 => okb_0_28
  | 29 => okb_0_29
  | 30 => okb_0_30
  | k + 31 => rfl
set_option maxRecDepth 100000 in
theorem okb_1_0 : okBk 1 0 = true := by decide +kernel
set_option maxRecDepth 100000 in
theorem okb_1_1 : okBk 1 1 = true := by decide +kernel
set_option maxRecDepth 100000 in
theorem okb_1_2 : okBk 1 2 = true := by decide +kernel
set_option maxRecDepth 100000 in
theorem okb_1_3 : okBk 1 3 = true := by decide +kernel
theorem ok_1 : ∀ k, okBk 1 k = true := fun k => match k with
  | 0 => okb_1_0
  | 1 => okb_1_1
  | 2 => okb_1_2
  | 3 => okb_1_3
  | k + 4 => rfl
set_option maxRecDepth 100000 in
theorem cw_1 : twAt 2036 = some (.code ⟨"QuillBoats", "<init>", "()V"⟩ prog_1_method_1_code 1 none) := rfl
set_option maxRecDepth 100000 in
theorem okb_2_0 : okBk 2 0 = true := by decide +kernel
set_option maxRecDepth 100000 in
theorem okb_2_1 : okBk 2 1 = true := by decide +kernel
set_option maxRecDepth 100000 in
theorem okb_2_2 : okBk 2 2 = true := by decide +kernel
set_option maxRecDepth 100000 in
theorem okb_2_3 : okBk 2 3 = true := by decide +kernel
set_option maxRecDepth 100000 in
theorem okb_2_4 : okBk 2 4 = true := by decide +kernel
set_option maxRecDepth 100000 in
theorem okb_2_5 : okBk 2 5 = true := by decide +kernel
set_option maxRecDepth 100000 in
theorem okb_2_6 : okBk 2 6 = true := by decide +kernel
set_option maxRecDepth 100000 in
theorem okb_2_7 : okBk 2 7 = true := by decide +kernel
set_option maxRecDepth 100000 in
theorem okb_2_8 : okBk 2 8 = true := by decide +kernel
set_option maxRecDepth 100000 in
theorem okb_2_9 : okBk 2 9 = true := by decide +kernel
set_option maxRecDepth 100000 in
theorem okb_2_10 : okBk 2 10 = true := by decide +kernel
set_option maxRecDepth 100000 in
theorem okb_2_11 : okBk 2 11 = true := by decide +kernel
set_option maxRecDepth 100000 in
theorem okb_2_12 : okBk 2 12 = true := by decide +kernel
set_option maxRecDepth 100000 in
theorem okb_2_13 : okBk 2 13 = true := by decide +kernel
set_option maxRecDepth 100000 in
theorem okb_2_14 : okBk 2 14 = true := by decide +kernel
set_option maxRecDepth 100000 in
theorem okb_2_15 : okBk 2 15 = true := by decide +kernel
set_option maxRecDepth 100000 in
theorem okb_2_16 : okBk 2 16 = true := by decide +kernel
set_option maxRecDepth 100000 in
theorem okb_2_17 : okBk 2 17 = true := by decide +kernel
set_option maxRecDepth 100000 in
theorem okb_2_18 : okBk 2 18 = true := by decide +kernel
set_option maxRecDepth 100000 in
theorem okb_2_19 : okBk 2 19 = true := by decide +kernel
set_option maxRecDepth 100000 in
theorem okb_2_20 : okBk 2 20 = true := by decide +kernel
set_option maxRecDepth 100000 in
theorem okb_2_21 : okBk 2 21 = true := by decide +kernel
set_option maxRecDepth 100000 in
theorem okb_2_22 : okBk 2 22 = true := by decide +kernel
set_option maxRecDepth 100000 in
theorem okb_2_23 : okBk 2 23 = true := by decide +kernel
theorem ok_2 : ∀ k, okBk 2 k = true := fun k => match k with
  | 0 => okb_2_0
  | 1 => okb_2_1
  | 2 => okb_2_2
  | 3 => okb_2_3
  | 4 => okb_2_4
  | 5 => okb_2_5
  | 6 => okb_2_6
  | 7 => okb_2_7
  | 8 => okb_2_8
  | 9 => okb_2_9
  | 10 => okb_2_10
  | 11 => okb_2_11
  | 12 => okb_2_12
  | 13 => okb_2_13
  | 14 => okb_2_14
  | 15 => okb_2_15
  | 16 => okb_2_16
  | 17 => okb_2_17
  | 18 => okb_2_18
  | 19 => okb_2_19
  | 20 => okb_2_20
  | 21 => okb_2_21
  | 22 => okb_2_22
  | 23 => okb_2_23
  | k + 24 => rfl
set_option maxRecDepth 100000 in
theorem cw_2 : twAt 8166 = some (.code ⟨"QuillBoatsLaw", "chosen", "([I)LQuillBoatsLaw$Sim;"⟩ method_5_code 10 (some (.object "QuillBoatsLaw$Sim"))) := rfl
set_option maxRecDepth 100000 in
theorem okb_3_0 : okBk 3 0 = true := by decide +kernel
set_option maxRecDepth 100000 in
theorem okb_3_1 : okBk 3 1 = true := by decide +kernel
set_option maxRecDepth 100000 in
theorem okb_3_2 : okBk 3 2 = true := by decide +kernel
set_option maxRecDepth 100000 in
theorem okb_3_3 : okBk 3 3 = true := by decide +kernel
set_option maxRecDepth 100000 in
theorem okb_3_4 : okBk 3 4 = true := by decide +kernel
set_option maxRecDepth 100000 in
theorem okb_3_5 : okBk 3 5 = true := by decide +kernel
set_option maxRecDepth 100000 in
theorem okb_3_6 : okBk 3 6 = true := by decide +kernel
set_option maxRecDepth 100000 in
theorem okb_3_7 : okBk 3 7 = true := by decide +kernel
set_option maxRecDepth 100000 in
theorem okb_3_8 : okBk 3 8 = true := by decide +kernel
set_option maxRecDepth 100000 in
theorem okb_3_9 : okBk 3 9 = true := by decide +kernel
set_option maxRecDepth 100000 in
theorem okb_3_10 : okBk 3 10 = true := by decide +kernel
set_option maxRecDepth 100000 in
theorem okb_3_11 : okBk 3 11 = true := by decide +kernel
set_option maxRecDepth 100000 in
theorem okb_3_12 : okBk 3 12 = true := by decide +kernel
set_option maxRecDepth 100000 in
theorem okb_3_13 : okBk 3 13 = true := by decide +kernel
set_option maxRecDepth 100000 in
theorem okb_3_14 : okBk 3 14 = true := by decide +kernel
set_option maxRecDepth 100000 in
theorem okb_3_15 : okBk 3 15 = true := by decide +kernel
set_option maxRecDepth 100000 in
theorem okb_3_16 : okBk 3 16 = true := by decide +kernel
set_option maxRecDepth 100000 in
theorem okb_3_17 : okBk 3 17 = true := by decide +kernel
set_option maxRecDepth 100000 in
theorem okb_3_18 : okBk 3 18 = true := by decide +kernel
set_option maxRecDepth 100000 in
theorem okb_3_19 : okBk 3 19 = true := by decide +kernel
theorem ok_3 : ∀ k, okBk 3 k = true := fun k => match k with
  | 0 => okb_3_0
  | 1 => okb_3_1
  | 2 => okb_3_2
  | 3 => okb_3_3
  | 4 => okb_3_4
  | 5 => okb_3_5
  | 6 => okb_3_6
  | 7 => okb_3_7
  | 8 => okb_3_8
  | 9 => okb_3_9
  | 10 => okb_3_10
  | 11 => okb_3_11
  | 12 => okb_3_12
  | 13 => okb_3_13
  | 14 => okb_3_14
  | 15 => okb_3_15
  | 16 => okb_3_16
  | 17 => okb_3_17
  | 18 => okb_3_18
  | 19 => okb_3_19
  | k + 20 => rfl
set_option maxRecDepth 100000 in
theorem cw_3 : twAt 6022 = some (.code ⟨"QuillBoatsLaw$Sim", "text", "()Ljava/lang/String;"⟩ prog_14_method_18_code 7 (some (.object "java/lang/String"))) := rfl
set_option maxRecDepth 100000 in
theorem okb_4_0 : okBk 4 0 = true := by decide +kernel
set_option maxRecDepth 100000 in
theorem okb_4_1 : okBk 4 1 = true := by decide +kernel
set_option maxRecDepth 100000 in
theorem okb_4_2 : okBk 4 2 = true := by decide +kernel
set_option maxRecDepth 100000 in
theorem okb_4_3 : okBk 4 3 = true := by decide +kernel
theorem ok_4 : ∀ k, okBk 4 k = true := fun k => match k with
  | 0 => okb_4_0
  | 1 => okb_4_1
  | 2 => okb_4_2
  | 3 => okb_4_3
  | k + 4 => rfl
set_option maxRecDepth 100000 in
theorem cw_4 : twAt 7072 = some (.code ⟨"QuillBoatsLaw", "say", "(LQuillBoats;Ljava/lang/String;)I"⟩ method_4_code 6 (some .int)) := rfl
set_option maxRecDepth 100000 in
theorem okb_5_0 : okBk 5 0 = true := by decide +kernel
theorem ok_5 : ∀ k, okBk 5 k = true := fun k => match k with
  | 0 => okb_5_0
  | k + 1 => rfl
set_option maxRecDepth 100000 in
theorem cw_5 : twAt 7068 = some (.code ⟨"QuillBoatsLaw", "cell", "([II)I"⟩ method_3_code 2 (some .int)) := rfl
set_option maxRecDepth 100000 in
theorem okb_6_0 : okBk 6 0 = true := by decide +kernel
set_option maxRecDepth 100000 in
theorem okb_6_1 : okBk 6 1 = true := by decide +kernel
set_option maxRecDepth 100000 in
theorem okb_6_2 : okBk 6 2 = true := by decide +kernel
set_option maxRecDepth 100000 in
theorem okb_6_3 : okBk 6 3 = true := by decide +kernel
set_option maxRecDepth 100000 in
theorem okb_6_4 : okBk 6 4 = true := by decide +kernel
set_option maxRecDepth 100000 in
theorem okb_6_5 : okBk 6 5 = true := by decide +kernel
set_option maxRecDepth 100000 in
theorem okb_6_6 : okBk 6 6 = true := by decide +kernel
set_option maxRecDepth 100000 in
theorem okb_6_7 : okBk 6 7 = true := by decide +kernel
set_option maxRecDepth 100000 in
theorem okb_6_8 : okBk 6 8 = true := by decide +kernel
set_option maxRecDepth 100000 in
theorem okb_6_9 : okBk 6 9 = true := by decide +kernel
set_option maxRecDepth 100000 in
theorem okb_6_10 : okBk 6 10 = true := by decide +kernel
set_option maxRecDepth 100000 in
theorem okb_6_11 : okBk 6 11 = true := by decide +kernel
set_option maxRecDepth 100000 in
theorem okb_6_12 : okBk 6 12 = true := by decide +kernel
theorem ok_6 : ∀ k, okBk 6 k = true := fun k => match k with
  | 0 => okb_6_0
  | 1 => okb_6_1
  | 2 => okb_6_2
  | 3 => okb_6_3
  | 4 => okb_6_4
  | 5 => okb_6_5
  | 6 => okb_6_6
  | 7 => okb_6_7
  | 8 => okb_6_8
  | 9 => okb_6_9
  | 10 => okb_6_10
  | 11 => okb_6_11
  | 12 => okb_6_12
  | k + 13 => rfl
set_option maxRecDepth 100000 in
theorem cw_6 : twAt 9010 = some (.code ⟨"QuillBoatsLaw", "act", "(LQuillBoats;LQuillBoatsLaw$Sim;I)Z"⟩ method_6_code 13 (some .boolean)) := rfl
set_option maxRecDepth 100000 in
theorem okb_7_0 : okBk 7 0 = true := by decide +kernel
theorem ok_7 : ∀ k, okBk 7 k = true := fun k => match k with
  | 0 => okb_7_0
  | k + 1 => rfl
set_option maxRecDepth 100000 in
theorem cw_7 : twAt 4020 = some (.code ⟨"QuillBoats", "count", "(I)I"⟩ prog_1_method_8_code 2 (some .int)) := rfl
set_option maxRecDepth 100000 in
theorem okb_8_0 : okBk 8 0 = true := by decide +kernel
set_option maxRecDepth 100000 in
theorem okb_8_1 : okBk 8 1 = true := by decide +kernel
theorem ok_8 : ∀ k, okBk 8 k = true := fun k => match k with
  | 0 => okb_8_0
  | 1 => okb_8_1
  | k + 2 => rfl
set_option maxRecDepth 100000 in
theorem cw_8 : twAt 4118 = some (.code ⟨"QuillBoats", "garden", "(II)I"⟩ prog_1_method_10_code 3 (some .int)) := rfl
set_option maxRecDepth 100000 in
theorem okb_9_0 : okBk 9 0 = true := by decide +kernel
set_option maxRecDepth 100000 in
theorem okb_9_1 : okBk 9 1 = true := by decide +kernel
theorem ok_9 : ∀ k, okBk 9 k = true := fun k => match k with
  | 0 => okb_9_0
  | 1 => okb_9_1
  | k + 2 => rfl
set_option maxRecDepth 100000 in
theorem cw_9 : twAt 4136 = some (.code ⟨"QuillBoats", "rack", "(II)I"⟩ prog_1_method_11_code 3 (some .int)) := rfl
set_option maxRecDepth 100000 in
theorem okb_10_0 : okBk 10 0 = true := by decide +kernel
set_option maxRecDepth 100000 in
theorem okb_10_1 : okBk 10 1 = true := by decide +kernel
theorem ok_10 : ∀ k, okBk 10 k = true := fun k => match k with
  | 0 => okb_10_0
  | 1 => okb_10_1
  | k + 2 => rfl
set_option maxRecDepth 100000 in
theorem cw_10 : twAt 4162 = some (.code ⟨"QuillBoats", "bundle", "(III)I"⟩ prog_1_method_12_code 4 (some .int)) := rfl
set_option maxRecDepth 100000 in
theorem okb_11_0 : okBk 11 0 = true := by decide +kernel
set_option maxRecDepth 100000 in
theorem okb_11_1 : okBk 11 1 = true := by decide +kernel
theorem ok_11 : ∀ k, okBk 11 k = true := fun k => match k with
  | 0 => okb_11_0
  | 1 => okb_11_1
  | k + 2 => rfl
set_option maxRecDepth 100000 in
theorem cw_11 : twAt 4186 = some (.code ⟨"QuillBoats", "dry", "(III)I"⟩ prog_1_method_13_code 4 (some .int)) := rfl
set_option maxRecDepth 100000 in
theorem okb_12_0 : okBk 12 0 = true := by decide +kernel
set_option maxRecDepth 100000 in
theorem okb_12_1 : okBk 12 1 = true := by decide +kernel
theorem ok_12 : ∀ k, okBk 12 k = true := fun k => match k with
  | 0 => okb_12_0
  | 1 => okb_12_1
  | k + 2 => rfl
set_option maxRecDepth 100000 in
theorem cw_12 : twAt 4202 = some (.code ⟨"QuillBoats", "peeler", "(II)I"⟩ prog_1_method_14_code 3 (some .int)) := rfl
set_option maxRecDepth 100000 in
theorem okb_13_0 : okBk 13 0 = true := by decide +kernel
set_option maxRecDepth 100000 in
theorem okb_13_1 : okBk 13 1 = true := by decide +kernel
theorem ok_13 : ∀ k, okBk 13 k = true := fun k => match k with
  | 0 => okb_13_0
  | 1 => okb_13_1
  | k + 2 => rfl
set_option maxRecDepth 100000 in
theorem cw_13 : twAt 4216 = some (.code ⟨"QuillBoats", "boat", "(II)I"⟩ prog_1_method_15_code 3 (some .int)) := rfl
set_option maxRecDepth 100000 in
theorem okb_14_0 : okBk 14 0 = true := by decide +kernel
set_option maxRecDepth 100000 in
theorem okb_14_1 : okBk 14 1 = true := by decide +kernel
set_option maxRecDepth 100000 in
theorem okb_14_2 : okBk 14 2 = true := by decide +kernel
theorem ok_14 : ∀ k, okBk 14 k = true := fun k => match k with
  | 0 => okb_14_0
  | 1 => okb_14_1
  | 2 => okb_14_2
  | k + 3 => rfl
set_option maxRecDepth 100000 in
theorem cw_14 : twAt 5157 = some (.code ⟨"QuillBoats", "until", "(I)I"⟩ prog_1_method_26_code 4 (some .int)) := rfl
set_option maxRecDepth 100000 in
theorem okb_15_0 : okBk 15 0 = true := by decide +kernel
set_option maxRecDepth 100000 in
theorem okb_15_1 : okBk 15 1 = true := by decide +kernel
theorem ok_15 : ∀ k, okBk 15 k = true := fun k => match k with
  | 0 => okb_15_0
  | 1 => okb_15_1
  | k + 2 => rfl
set_option maxRecDepth 100000 in
theorem cw_15 : twAt 4230 = some (.code ⟨"QuillBoats", "grade", "(II)I"⟩ prog_1_method_16_code 3 (some .int)) := rfl
set_option maxRecDepth 100000 in
theorem okb_16_0 : okBk 16 0 = true := by decide +kernel
theorem ok_16 : ∀ k, okBk 16 k = true := fun k => match k with
  | 0 => okb_16_0
  | k + 1 => rfl
set_option maxRecDepth 100000 in
theorem cw_16 : twAt 3191 = some (.code ⟨"java/lang/Math", "max", "(II)I"⟩ prog_26_method_65_code 2 (some .int)) := rfl
set_option maxRecDepth 100000 in
theorem okb_17_0 : okBk 17 0 = true := by decide +kernel
set_option maxRecDepth 100000 in
theorem okb_17_1 : okBk 17 1 = true := by decide +kernel
theorem ok_17 : ∀ k, okBk 17 k = true := fun k => match k with
  | 0 => okb_17_0
  | 1 => okb_17_1
  | k + 2 => rfl
set_option maxRecDepth 100000 in
theorem cw_17 : twAt 5008 = some (.code ⟨"QuillBoats", "worth", "(II)I"⟩ prog_1_method_18_code 3 (some .int)) := rfl
set_option maxRecDepth 100000 in
theorem okb_18_0 : okBk 18 0 = true := by decide +kernel
set_option maxRecDepth 100000 in
theorem okb_18_1 : okBk 18 1 = true := by decide +kernel
set_option maxRecDepth 100000 in
theorem okb_18_2 : okBk 18 2 = true := by decide +kernel
theorem ok_18 : ∀ k, okBk 18 k = true := fun k => match k with
  | 0 => okb_18_0
  | 1 => okb_18_1
  | 2 => okb_18_2
  | k + 3 => rfl
set_option maxRecDepth 100000 in
theorem cw_18 : twAt 5167 = some (.code ⟨"QuillBoats", "foresee", "(II)I"⟩ prog_1_method_27_code 3 (some .int)) := rfl
set_option maxRecDepth 100000 in
theorem okb_19_0 : okBk 19 0 = true := by decide +kernel
set_option maxRecDepth 100000 in
theorem okb_19_1 : okBk 19 1 = true := by decide +kernel
theorem ok_19 : ∀ k, okBk 19 k = true := fun k => match k with
  | 0 => okb_19_0
  | 1 => okb_19_1
  | k + 2 => rfl
set_option maxRecDepth 100000 in
theorem cw_19 : twAt 5034 = some (.code ⟨"QuillBoats", "pass", "(I)I"⟩ prog_1_method_24_code 3 (some .int)) := rfl
set_option maxRecDepth 100000 in
theorem okb_20_0 : okBk 20 0 = true := by decide +kernel
set_option maxRecDepth 100000 in
theorem okb_20_1 : okBk 20 1 = true := by decide +kernel
set_option maxRecDepth 100000 in
theorem okb_20_2 : okBk 20 2 = true := by decide +kernel
set_option maxRecDepth 100000 in
theorem okb_20_3 : okBk 20 3 = true := by decide +kernel
set_option maxRecDepth 100000 in
theorem okb_20_4 : okBk 20 4 = true := by decide +kernel
set_option maxRecDepth 100000 in
theorem okb_20_5 : okBk 20 5 = true := by decide +kernel
set_option maxRecDepth 100000 in
theorem okb_20_6 : okBk 20 6 = true := by decide +kernel
set_option maxRecDepth 100000 in
theorem okb_20_7 : okBk 20 7 = true := by decide +kernel
set_option maxRecDepth 100000 in
theorem okb_20_8 : okBk 20 8 = true := by decide +kernel
set_option maxRecDepth 100000 in
theorem okb_20_9 : okBk 20 9 = true := by decide +kernel
set_option maxRecDepth 100000 in
theorem okb_20_10 : okBk 20 10 = true := by decide +kernel
set_option maxRecDepth 100000 in
theorem okb_20_11 : okBk 20 11 = true := by decide +kernel
set_option maxRecDepth 100000 in
theorem okb_20_12 : okBk 20 12 = true := by decide +kernel
set_option maxRecDepth 100000 in
theorem okb_20_13 : okBk 20 13 = true := by decide +kernel
set_option maxRecDepth 100000 in
theorem okb_20_14 : okBk 20 14 = true := by decide +kernel
set_option maxRecDepth 100000 in
theorem okb_20_15 : okBk 20 15 = true := by decide +kernel
set_option maxRecDepth 100000 in
theorem okb_20_16 : okBk 20 16 = true := by decide +kernel
set_option maxRecDepth 100000 in
theorem okb_20_17 : okBk 20 17 = true := by decide +kernel
set_option maxRecDepth 100000 in
theorem okb_20_18 : okBk 20 18 = true := by decide +kernel
set_option maxRecDepth 100000 in
theorem okb_20_19 : okBk 20 19 = true := by decide +kernel
set_option maxRecDepth 100000 in
theorem okb_20_20 : okBk 20 20 = true := by decide +kernel
set_option maxRecDepth 100000 in
theorem okb_20_21 : okBk 20 21 = true := by decide +kernel
set_option maxRecDepth 100000 in
theorem okb_20_22 : okBk 20 22 = true := by decide +kernel
set_option maxRecDepth 100000 in
theorem okb_20_23 : okBk 20 23 = true := by decide +kernel
set_option maxRecDepth 100000 in
theorem okb_20_24 : okBk 20 24 = true := by decide +kernel
set_option maxRecDepth 100000 in
theorem okb_20_25 : okBk 20 25 = true := by decide +kernel
set_option maxRecDepth 100000 in
theorem okb_20_26 : okBk 20 26 = true := by decide +kernel
set_option maxRecDepth 100000 in
theorem okb_20_27 : okBk 20 27 = true := by decide +kernel
set_option maxRecDepth 100000 in
theorem okb_20_28 : okBk 20 28 = true := by decide +kernel
set_option maxRecDepth 100000 in
theorem okb_20_29 : okBk 20 29 = true := by decide +kernel
set_option maxRecDepth 100000 in
theorem okb_20_30 : okBk 20 30 = true := by decide +kernel
theorem ok_20 : ∀ k, okBk 20 k = true := fun k => match k with
  | 0 => okb_20_0
  | 1 => okb_20_1
  | 2 => okb_20_2
  | 3 => okb_20_3
  | 4 => okb_20_4
  | 5 => okb_20_5
  | 6 => okb_20_6
  | 7 => okb_20_7
  | 8 => okb_20_8
  | 9 => okb_20_9
  | 10 => okb_20_10
  | 11 => okb_20_11
  | 12 => okb_20_12
  | 13 => okb_20_13
  | 14 => okb_20_14
  | 15 => okb_20_15
  | 16 => okb_20_16
  | 17 => okb_20_17
  | 18 => okb_20_18
  | 19 => okb_20_19
  | 20 => okb_20_20
  | 21 => okb_20_21
  | 22 => okb_20_22
  | 23 => okb_20_23
  | 24 => okb_20_24
  | 25 => okb_20_25
  | 26 => okb_20_26
  | 27 => okb_20_27
  | 28 => okb_20_28
  | 29 => okb_20_29
  | 30 => okb_20_30
  | k + 31 => rfl
set_option maxRecDepth 100000 in
theorem cw_20 : twAt 5198 = some (.code ⟨"QuillBoatsLaw$Sim", "pass", "()V"⟩ prog_14_method_12_code 10 none) := rfl
set_option maxRecDepth 100000 in
theorem okb_21_0 : okBk 21 0 = true := by decide +kernel
set_option maxRecDepth 100000 in
theorem okb_21_1 : okBk 21 1 = true := by decide +kernel
set_option maxRecDepth 100000 in
theorem okb_21_2 : okBk 21 2 = true := by decide +kernel
set_option maxRecDepth 100000 in
theorem okb_21_3 : okBk 21 3 = true := by decide +kernel
set_option maxRecDepth 100000 in
theorem okb_21_4 : okBk 21 4 = true := by decide +kernel
set_option maxRecDepth 100000 in
theorem okb_21_5 : okBk 21 5 = true := by decide +kernel
set_option maxRecDepth 100000 in
theorem okb_21_6 : okBk 21 6 = true := by decide +kernel
set_option maxRecDepth 100000 in
theorem okb_21_7 : okBk 21 7 = true := by decide +kernel
set_option maxRecDepth 100000 in
theorem okb_21_8 : okBk 21 8 = true := by decide +kernel
set_option maxRecDepth 100000 in
theorem okb_21_9 : okBk 21 9 = true := by decide +kernel
set_option maxRecDepth 100000 in
theorem okb_21_10 : okBk 21 10 = true := by decide +kernel
set_option maxRecDepth 100000 in
theorem okb_21_11 : okBk 21 11 = true := by decide +kernel
set_option maxRecDepth 100000 in
theorem okb_21_12 : okBk 21 12 = true := by decide +kernel
set_option maxRecDepth 100000 in
theorem okb_21_13 : okBk 21 13 = true := by decide +kernel
set_option maxRecDepth 100000 in
theorem okb_21_14 : okBk 21 14 = true := by decide +kernel
set_option maxRecDepth 100000 in
theorem okb_21_15 : okBk 21 15 = true := by decide +kernel
set_option maxRecDepth 100000 in
theorem okb_21_16 : okBk 21 16 = true := by decide +kernel
set_option maxRecDepth 100000 in
theorem okb_21_17 : okBk 21 17 = true := by decide +kernel
set_option maxRecDepth 100000 in
theorem okb_21_18 : okBk 21 18 = true := by decide +kernel
set_option maxRecDepth 100000 in
theorem okb_21_19 : okBk 21 19 = true := by decide +kernel
set_option maxRecDepth 100000 in
theorem okb_21_20 : okBk 21 20 = true := by decide +kernel
set_option maxRecDepth 100000 in
theorem okb_21_21 : okBk 21 21 = true := by decide +kernel
set_option maxRecDepth 100000 in
theorem okb_21_22 : okBk 21 22 = true := by decide +kernel
theorem ok_21 : ∀ k, okBk 21 k = true := fun k => match k with
  | 0 => okb_21_0
  | 1 => okb_21_1
  | 2 => okb_21_2
  | 3 => okb_21_3
  | 4 => okb_21_4
  | 5 => okb_21_5
  | 6 => okb_21_6
  | 7 => okb_21_7
  | 8 => okb_21_8
  | 9 => okb_21_9
  | 10 => okb_21_10
  | 11 => okb_21_11
  | 12 => okb_21_12
  | 13 => okb_21_13
  | 14 => okb_21_14
  | 15 => okb_21_15
  | 16 => okb_21_16
  | 17 => okb_21_17
  | 18 => okb_21_18
  | 19 => okb_21_19
  | 20 => okb_21_20
  | 21 => okb_21_21
  | 22 => okb_21_22
  | k + 23 => rfl
set_option maxRecDepth 100000 in
theorem cw_21 : twAt 5238 = some (.code ⟨"QuillBoatsLaw$Sim", "isSame", "(LQuillBoats;)Z"⟩ prog_14_method_15_code 9 (some .boolean)) := rfl
set_option maxRecDepth 100000 in
theorem okb_22_0 : okBk 22 0 = true := by decide +kernel
set_option maxRecDepth 100000 in
theorem okb_22_1 : okBk 22 1 = true := by decide +kernel
theorem ok_22 : ∀ k, okBk 22 k = true := fun k => match k with
  | 0 => okb_22_0
  | 1 => okb_22_1
  | k + 2 => rfl
set_option maxRecDepth 100000 in
theorem cw_22 : twAt 2044 = some (.code ⟨"QuillBoats$Orders", "<init>", "()V"⟩ prog_7_method_1_code 1 none) := rfl
set_option maxRecDepth 100000 in
theorem okb_23_0 : okBk 23 0 = true := by decide +kernel
set_option maxRecDepth 100000 in
theorem okb_23_1 : okBk 23 1 = true := by decide +kernel
set_option maxRecDepth 100000 in
theorem okb_23_2 : okBk 23 2 = true := by decide +kernel
set_option maxRecDepth 100000 in
theorem okb_23_3 : okBk 23 3 = true := by decide +kernel
set_option maxRecDepth 100000 in
theorem okb_23_4 : okBk 23 4 = true := by decide +kernel
set_option maxRecDepth 100000 in
theorem okb_23_5 : okBk 23 5 = true := by decide +kernel
set_option maxRecDepth 100000 in
theorem okb_23_6 : okBk 23 6 = true := by decide +kernel
set_option maxRecDepth 100000 in
theorem okb_23_7 : okBk 23 7 = true := by decide +kernel
theorem ok_23 : ∀ k, okBk 23 k = true := fun k => match k with
  | 0 => okb_23_0
  | 1 => okb_23_1
  | 2 => okb_23_2
  | 3 => okb_23_3
  | 4 => okb_23_4
  | 5 => okb_23_5
  | 6 => okb_23_6
  | 7 => okb_23_7
  | k + 8 => rfl
set_option maxRecDepth 100000 in
theorem cw_23 : twAt 2068 = some (.code ⟨"QuillBoats$River", "<init>", "()V"⟩ prog_10_method_1_code 2 none) := rfl
set_option maxRecDepth 100000 in
theorem okb_24_0 : okBk 24 0 = true := by decide +kernel
set_option maxRecDepth 100000 in
theorem okb_24_1 : okBk 24 1 = true := by decide +kernel
set_option maxRecDepth 100000 in
theorem okb_24_2 : okBk 24 2 = true := by decide +kernel
theorem ok_24 : ∀ k, okBk 24 k = true := fun k => match k with
  | 0 => okb_24_0
  | 1 => okb_24_1
  | 2 => okb_24_2
  | k + 3 => rfl
set_option maxRecDepth 100000 in
theorem cw_24 : twAt 3074 = some (.code ⟨"QuillBoats$Names", "<init>", "()V"⟩ prog_6_method_1_code 1 none) := rfl
set_option maxRecDepth 100000 in
theorem okb_25_0 : okBk 25 0 = true := by decide +kernel
set_option maxRecDepth 100000 in
theorem okb_25_1 : okBk 25 1 = true := by decide +kernel
set_option maxRecDepth 100000 in
theorem okb_25_2 : okBk 25 2 = true := by decide +kernel
set_option maxRecDepth 100000 in
theorem okb_25_3 : okBk 25 3 = true := by decide +kernel
set_option maxRecDepth 100000 in
theorem okb_25_4 : okBk 25 4 = true := by decide +kernel
set_option maxRecDepth 100000 in
theorem okb_25_5 : okBk 25 5 = true := by decide +kernel
theorem ok_25 : ∀ k, okBk 25 k = true := fun k => match k with
  | 0 => okb_25_0
  | 1 => okb_25_1
  | 2 => okb_25_2
  | 3 => okb_25_3
  | 4 => okb_25_4
  | 5 => okb_25_5
  | k + 6 => rfl
set_option maxRecDepth 100000 in
theorem cw_25 : twAt 8170 = some (.code ⟨"QuillBoatsLaw$Sim", "<init>", "()V"⟩ prog_14_method_1_code 1 none) := rfl
set_option maxRecDepth 100000 in
theorem okb_26_0 : okBk 26 0 = true := by decide +kernel
theorem ok_26 : ∀ k, okBk 26 k = true := fun k => match k with
  | 0 => okb_26_0
  | k + 1 => rfl
set_option maxRecDepth 100000 in
theorem cw_26 : twAt 9004 = some (.code ⟨"QuillBoatsLaw", "below", "(II)I"⟩ method_2_code 2 (some .int)) := rfl
set_option maxRecDepth 100000 in
theorem okb_27_0 : okBk 27 0 = true := by decide +kernel
theorem ok_27 : ∀ k, okBk 27 k = true := fun k => match k with
  | 0 => okb_27_0
  | k + 1 => rfl
set_option maxRecDepth 100000 in
theorem cw_27 : twAt 6027 = some (.code ⟨"java/lang/StringBuilder", "<init>", "()V"⟩ prog_29_method_1_code 1 none) := rfl
set_option maxRecDepth 100000 in
theorem okb_28_0 : okBk 28 0 = true := by decide +kernel
theorem ok_28 : ∀ k, okBk 28 k = true := fun k => match k with
  | 0 => okb_28_0
  | k + 1 => rfl
set_option maxRecDepth 100000 in
theorem cw_28 : twAt 6057 = some (.code ⟨"java/lang/StringBuilder", "append", "(Ljava/lang/String;)Ljava/lang/StringBuilder;"⟩ prog_29_method_7_code 2 (some (.object "java/lang/StringBuilder"))) := rfl
set_option maxRecDepth 100000 in
theorem okb_29_0 : okBk 29 0 = true := by decide +kernel
theorem ok_29 : ∀ k, okBk 29 k = true := fun k => match k with
  | 0 => okb_29_0
  | k + 1 => rfl
set_option maxRecDepth 100000 in
theorem cw_29 : twAt 6154 = some (.code ⟨"java/lang/StringBuilder", "append", "(I)Ljava/lang/StringBuilder;"⟩ prog_29_method_15_code 2 (some (.object "java/lang/StringBuilder"))) := rfl
set_option maxRecDepth 100000 in
theorem okb_30_0 : okBk 30 0 = true := by decide +kernel
theorem ok_30 : ∀ k, okBk 30 k = true := fun k => match k with
  | 0 => okb_30_0
  | k + 1 => rfl
set_option maxRecDepth 100000 in
theorem cw_30 : twAt 6199 = some (.code ⟨"java/lang/StringBuilder", "append", "(C)Ljava/lang/StringBuilder;"⟩ prog_29_method_14_code 2 (some (.object "java/lang/StringBuilder"))) := rfl
set_option maxRecDepth 100000 in
theorem okb_31_0 : okBk 31 0 = true := by decide +kernel
set_option maxRecDepth 100000 in
theorem okb_31_1 : okBk 31 1 = true := by decide +kernel
set_option maxRecDepth 100000 in
theorem okb_31_2 : okBk 31 2 = true := by decide +kernel
set_option maxRecDepth 100000 in
theorem okb_31_3 : okBk 31 3 = true := by decide +kernel
set_option maxRecDepth 100000 in
theorem okb_31_4 : okBk 31 4 = true := by decide +kernel
set_option maxRecDepth 100000 in
theorem okb_31_5 : okBk 31 5 = true := by decide +kernel
theorem ok_31 : ∀ k, okBk 31 k = true := fun k => match k with
  | 0 => okb_31_0
  | 1 => okb_31_1
  | 2 => okb_31_2
  | 3 => okb_31_3
  | 4 => okb_31_4
  | 5 => okb_31_5
  | k + 6 => rfl
set_option maxRecDepth 100000 in
theorem cw_31 : twAt 6214 = some (.code ⟨"QuillBoatsLaw$Sim", "sumOf", "([I)Ljava/lang/String;"⟩ prog_14_method_17_code 2 (some (.object "java/lang/String"))) := rfl
set_option maxRecDepth 100000 in
theorem okb_32_0 : okBk 32 0 = true := by decide +kernel
set_option maxRecDepth 100000 in
theorem okb_32_1 : okBk 32 1 = true := by decide +kernel
set_option maxRecDepth 100000 in
theorem okb_32_2 : okBk 32 2 = true := by decide +kernel
set_option maxRecDepth 100000 in
theorem okb_32_3 : okBk 32 3 = true := by decide +kernel
set_option maxRecDepth 100000 in
theorem okb_32_4 : okBk 32 4 = true := by decide +kernel
set_option maxRecDepth 100000 in
theorem okb_32_5 : okBk 32 5 = true := by decide +kernel
set_option maxRecDepth 100000 in
theorem okb_32_6 : okBk 32 6 = true := by decide +kernel
set_option maxRecDepth 100000 in
theorem okb_32_7 : okBk 32 7 = true := by decide +kernel
set_option maxRecDepth 100000 in
theorem okb_32_8 : okBk 32 8 = true := by decide +kernel
set_option maxRecDepth 100000 in
theorem okb_32_9 : okBk 32 9 = true := by decide +kernel
set_option maxRecDepth 100000 in
theorem okb_32_10 : okBk 32 10 = true := by decide +kernel
set_option maxRecDepth 100000 in
theorem okb_32_11 : okBk 32 11 = true := by decide +kernel
set_option maxRecDepth 100000 in
theorem okb_32_12 : okBk 32 12 = true := by decide +kernel
theorem ok_32 : ∀ k, okBk 32 k = true := fun k => match k with
  | 0 => okb_32_0
  | 1 => okb_32_1
  | 2 => okb_32_2
  | 3 => okb_32_3
  | 4 => okb_32_4
  | 5 => okb_32_5
  | 6 => okb_32_6
  | 7 => okb_32_7
  | 8 => okb_32_8
  | 9 => okb_32_9
  | 10 => okb_32_10
  | 11 => okb_32_11
  | 12 => okb_32_12
  | k + 13 => rfl
set_option maxRecDepth 100000 in
theorem cw_32 : twAt 7046 = some (.code ⟨"QuillBoatsLaw$Sim", "test", "([I)Ljava/lang/String;"⟩ prog_14_method_16_code 6 (some (.object "java/lang/String"))) := rfl
set_option maxRecDepth 100000 in
theorem okb_33_0 : okBk 33 0 = true := by decide +kernel
theorem ok_33 : ∀ k, okBk 33 k = true := fun k => match k with
  | 0 => okb_33_0
  | k + 1 => rfl
set_option maxRecDepth 100000 in
theorem cw_33 : twAt 6219 = some (.code ⟨"java/lang/StringBuilder", "toString", "()Ljava/lang/String;"⟩ prog_29_method_42_code 1 (some (.object "java/lang/String"))) := rfl
set_option maxRecDepth 100000 in
theorem okb_34_0 : okBk 34 0 = true := by decide +kernel
theorem ok_34 : ∀ k, okBk 34 k = true := fun k => match k with
  | 0 => okb_34_0
  | k + 1 => rfl
set_option maxRecDepth 100000 in
theorem cw_34 : twAt 3092 = some (.code ⟨"java/lang/String", "length", "()I"⟩ prog_28_method_54_code 1 (some .int)) := rfl
set_option maxRecDepth 100000 in
theorem okb_35_0 : okBk 35 0 = true := by decide +kernel
theorem ok_35 : ∀ k, okBk 35 k = true := fun k => match k with
  | 0 => okb_35_0
  | k + 1 => rfl
set_option maxRecDepth 100000 in
theorem cw_35 : twAt 3102 = some (.code ⟨"java/lang/String", "charAt", "(I)C"⟩ prog_28_method_56_code 2 (some .char)) := rfl
set_option maxRecDepth 100000 in
theorem okb_36_0 : okBk 36 0 = true := by decide +kernel
set_option maxRecDepth 100000 in
theorem okb_36_1 : okBk 36 1 = true := by decide +kernel
theorem ok_36 : ∀ k, okBk 36 k = true := fun k => match k with
  | 0 => okb_36_0
  | 1 => okb_36_1
  | k + 2 => rfl
set_option maxRecDepth 100000 in
theorem cw_36 : twAt 7078 = some (.code ⟨"QuillBoats", "feed", "(IIIII)I"⟩ prog_1_method_2_code 6 (some .int)) := rfl
set_option maxRecDepth 100000 in
theorem okb_37_0 : okBk 37 0 = true := by decide +kernel
theorem ok_37 : ∀ k, okBk 37 k = true := fun k => match k with
  | 0 => okb_37_0
  | k + 1 => rfl
set_option maxRecDepth 100000 in
theorem cw_37 : twAt 7102 = some (.code ⟨"QuillBoats", "trim", "(I)I"⟩ prog_1_method_4_code 2 (some .int)) := rfl
set_option maxRecDepth 100000 in
theorem okb_38_0 : okBk 38 0 = true := by decide +kernel
set_option maxRecDepth 100000 in
theorem okb_38_1 : okBk 38 1 = true := by decide +kernel
set_option maxRecDepth 100000 in
theorem okb_38_2 : okBk 38 2 = true := by decide +kernel
set_option maxRecDepth 100000 in
theorem okb_38_3 : okBk 38 3 = true := by decide +kernel
theorem ok_38 : ∀ k, okBk 38 k = true := fun k => match k with
  | 0 => okb_38_0
  | 1 => okb_38_1
  | 2 => okb_38_2
  | 3 => okb_38_3
  | k + 4 => rfl
set_option maxRecDepth 100000 in
theorem cw_38 : twAt 7107 = some (.code ⟨"QuillBoats", "teach", "()I"⟩ prog_1_method_5_code 2 (some .int)) := rfl
set_option maxRecDepth 100000 in
theorem okb_39_0 : okBk 39 0 = true := by decide +kernel
theorem ok_39 : ∀ k, okBk 39 k = true := fun k => match k with
  | 0 => okb_39_0
  | k + 1 => rfl
set_option maxRecDepth 100000 in
theorem cw_39 : twAt 5214 = some (.code ⟨"QuillBoatsLaw$Sim", "canWhet", "(I)Z"⟩ prog_14_method_7_code 2 (some .boolean)) := rfl
set_option maxRecDepth 100000 in
theorem okb_40_0 : okBk 40 0 = true := by decide +kernel
set_option maxRecDepth 100000 in
theorem okb_40_1 : okBk 40 1 = true := by decide +kernel
theorem ok_40 : ∀ k, okBk 40 k = true := fun k => match k with
  | 0 => okb_40_0
  | 1 => okb_40_1
  | k + 2 => rfl
set_option maxRecDepth 100000 in
theorem cw_40 : twAt 5218 = some (.code ⟨"QuillBoatsLaw$Sim", "whet", "(I)V"⟩ prog_14_method_8_code 2 none) := rfl
set_option maxRecDepth 100000 in
theorem okb_41_0 : okBk 41 0 = true := by decide +kernel
set_option maxRecDepth 100000 in
theorem okb_41_1 : okBk 41 1 = true := by decide +kernel
theorem ok_41 : ∀ k, okBk 41 k = true := fun k => match k with
  | 0 => okb_41_0
  | 1 => okb_41_1
  | k + 2 => rfl
set_option maxRecDepth 100000 in
theorem cw_41 : twAt 9016 = some (.code ⟨"QuillBoats", "whet", "(I)I"⟩ prog_1_method_19_code 2 (some .int)) := rfl
set_option maxRecDepth 100000 in
theorem okb_42_0 : okBk 42 0 = true := by decide +kernel
set_option maxRecDepth 100000 in
theorem okb_42_1 : okBk 42 1 = true := by decide +kernel
set_option maxRecDepth 100000 in
theorem okb_42_2 : okBk 42 2 = true := by decide +kernel
theorem ok_42 : ∀ k, okBk 42 k = true := fun k => match k with
  | 0 => okb_42_0
  | 1 => okb_42_1
  | 2 => okb_42_2
  | k + 3 => rfl
set_option maxRecDepth 100000 in
theorem cw_42 : twAt 9023 = some (.code ⟨"QuillBoats", "load", "(III)I"⟩ prog_1_method_20_code 5 (some .int)) := rfl
set_option maxRecDepth 100000 in
theorem okb_43_0 : okBk 43 0 = true := by decide +kernel
set_option maxRecDepth 100000 in
theorem okb_43_1 : okBk 43 1 = true := by decide +kernel
set_option maxRecDepth 100000 in
theorem okb_43_2 : okBk 43 2 = true := by decide +kernel
set_option maxRecDepth 100000 in
theorem okb_43_3 : okBk 43 3 = true := by decide +kernel
theorem ok_43 : ∀ k, okBk 43 k = true := fun k => match k with
  | 0 => okb_43_0
  | 1 => okb_43_1
  | 2 => okb_43_2
  | 3 => okb_43_3
  | k + 4 => rfl
set_option maxRecDepth 100000 in
theorem cw_43 : twAt 5227 = some (.code ⟨"QuillBoatsLaw$Sim", "load", "(III)I"⟩ prog_14_method_9_code 6 (some .int)) := rfl
set_option maxRecDepth 100000 in
theorem okb_44_0 : okBk 44 0 = true := by decide +kernel
set_option maxRecDepth 100000 in
theorem okb_44_1 : okBk 44 1 = true := by decide +kernel
theorem ok_44 : ∀ k, okBk 44 k = true := fun k => match k with
  | 0 => okb_44_0
  | 1 => okb_44_1
  | k + 2 => rfl
set_option maxRecDepth 100000 in
theorem cw_44 : twAt 9032 = some (.code ⟨"QuillBoats", "setShade", "(II)I"⟩ prog_1_method_21_code 4 (some .int)) := rfl
set_option maxRecDepth 100000 in
theorem okb_45_0 : okBk 45 0 = true := by decide +kernel
set_option maxRecDepth 100000 in
theorem okb_45_1 : okBk 45 1 = true := by decide +kernel
theorem ok_45 : ∀ k, okBk 45 k = true := fun k => match k with
  | 0 => okb_45_0
  | 1 => okb_45_1
  | k + 2 => rfl
set_option maxRecDepth 100000 in
theorem cw_45 : twAt 9037 = some (.code ⟨"QuillBoats", "setCurrent", "(I)I"⟩ prog_1_method_22_code 3 (some .int)) := rfl
set_option maxRecDepth 100000 in
theorem okb_46_0 : okBk 46 0 = true := by decide +kernel
theorem ok_46 : ∀ k, okBk 46 k = true := fun k => match k with
  | 0 => okb_46_0
  | k + 1 => rfl
set_option maxRecDepth 100000 in
theorem cw_46 : twAt 4182 = some (.code ⟨"java/lang/Math", "min", "(II)I"⟩ prog_26_method_69_code 2 (some .int)) := rfl
set_option maxRecDepth 100000 in
theorem okb_47_0 : okBk 47 0 = true := by decide +kernel
set_option maxRecDepth 100000 in
theorem okb_47_1 : okBk 47 1 = true := by decide +kernel
theorem ok_47 : ∀ k, okBk 47 k = true := fun k => match k with
  | 0 => okb_47_0
  | 1 => okb_47_1
  | k + 2 => rfl
set_option maxRecDepth 100000 in
theorem cw_47 : twAt 9044 = some (.code ⟨"QuillBoats", "grant", "(I)I"⟩ prog_1_method_23_code 2 (some .int)) := rfl
set_option maxRecDepth 100000 in
theorem okb_48_0 : okBk 48 0 = true := by decide +kernel
theorem ok_48 : ∀ k, okBk 48 k = true := fun k => match k with
  | 0 => okb_48_0
  | k + 1 => rfl
set_option maxRecDepth 100000 in
theorem cw_48 : twAt 9051 = some (.code ⟨"QuillBoatsLaw$Sim", "behind", "(I)LQuillBoatsLaw$Sim;"⟩ prog_14_method_13_code 3 (some (.object "QuillBoatsLaw$Sim"))) := rfl
set_option maxRecDepth 100000 in
theorem okb_49_0 : okBk 49 0 = true := by decide +kernel
theorem ok_49 : ∀ k, okBk 49 k = true := fun k => match k with
  | 0 => okb_49_0
  | k + 1 => rfl
set_option maxRecDepth 100000 in
theorem cw_49 : twAt 4023 = some (.code ⟨"QuillBoats", "isWithin", "(III)Z"⟩ prog_1_method_33_code 3 (some .boolean)) := rfl
set_option maxRecDepth 100000 in
theorem okb_50_0 : okBk 50 0 = true := by decide +kernel
theorem ok_50 : ∀ k, okBk 50 k = true := fun k => match k with
  | 0 => okb_50_0
  | k + 1 => rfl
set_option maxRecDepth 100000 in
theorem cw_50 : twAt 4094 = some (.code ⟨"QuillBoats", "counted", "(I)I"⟩ prog_1_method_9_code 2 (some .int)) := rfl
set_option maxRecDepth 100000 in
theorem okb_51_0 : okBk 51 0 = true := by decide +kernel
theorem ok_51 : ∀ k, okBk 51 k = true := fun k => match k with
  | 0 => okb_51_0
  | k + 1 => rfl
set_option maxRecDepth 100000 in
theorem cw_51 : twAt 4122 = some (.code ⟨"QuillBoats$River", "hasGarden", "(I)Z"⟩ prog_10_method_11_code 2 (some .boolean)) := rfl
set_option maxRecDepth 100000 in
theorem okb_52_0 : okBk 52 0 = true := by decide +kernel
set_option maxRecDepth 100000 in
theorem okb_52_1 : okBk 52 1 = true := by decide +kernel
set_option maxRecDepth 100000 in
theorem okb_52_2 : okBk 52 2 = true := by decide +kernel
theorem ok_52 : ∀ k, okBk 52 k = true := fun k => match k with
  | 0 => okb_52_0
  | 1 => okb_52_1
  | 2 => okb_52_2
  | k + 3 => rfl
set_option maxRecDepth 100000 in
theorem cw_52 : twAt 4127 = some (.code ⟨"QuillBoats$River", "ofGarden", "(II)I"⟩ prog_10_method_22_code 3 (some .int)) := rfl
set_option maxRecDepth 100000 in
theorem okb_53_0 : okBk 53 0 = true := by decide +kernel
theorem ok_53 : ∀ k, okBk 53 k = true := fun k => match k with
  | 0 => okb_53_0
  | k + 1 => rfl
set_option maxRecDepth 100000 in
theorem cw_53 : twAt 4140 = some (.code ⟨"QuillBoats$River", "hasRack", "(I)Z"⟩ prog_10_method_12_code 2 (some .boolean)) := rfl
set_option maxRecDepth 100000 in
theorem okb_54_0 : okBk 54 0 = true := by decide +kernel
set_option maxRecDepth 100000 in
theorem okb_54_1 : okBk 54 1 = true := by decide +kernel
set_option maxRecDepth 100000 in
theorem okb_54_2 : okBk 54 2 = true := by decide +kernel
theorem ok_54 : ∀ k, okBk 54 k = true := fun k => match k with
  | 0 => okb_54_0
  | 1 => okb_54_1
  | 2 => okb_54_2
  | k + 3 => rfl
set_option maxRecDepth 100000 in
theorem cw_54 : twAt 4145 = some (.code ⟨"QuillBoats$River", "ofRack", "(II)I"⟩ prog_10_method_24_code 3 (some .int)) := rfl
set_option maxRecDepth 100000 in
theorem okb_55_0 : okBk 55 0 = true := by decide +kernel
theorem ok_55 : ∀ k, okBk 55 k = true := fun k => match k with
  | 0 => okb_55_0
  | k + 1 => rfl
set_option maxRecDepth 100000 in
theorem cw_55 : twAt 4166 = some (.code ⟨"QuillBoats$River", "hasBundle", "(II)Z"⟩ prog_10_method_16_code 3 (some .boolean)) := rfl
set_option maxRecDepth 100000 in
theorem okb_56_0 : okBk 56 0 = true := by decide +kernel
theorem ok_56 : ∀ k, okBk 56 k = true := fun k => match k with
  | 0 => okb_56_0
  | k + 1 => rfl
set_option maxRecDepth 100000 in
theorem cw_56 : twAt 4171 = some (.code ⟨"QuillBoats$River", "ofBundle", "(III)I"⟩ prog_10_method_26_code 4 (some .int)) := rfl
set_option maxRecDepth 100000 in
theorem okb_57_0 : okBk 57 0 = true := by decide +kernel
set_option maxRecDepth 100000 in
theorem okb_57_1 : okBk 57 1 = true := by decide +kernel
set_option maxRecDepth 100000 in
theorem okb_57_2 : okBk 57 2 = true := by decide +kernel
set_option maxRecDepth 100000 in
theorem okb_57_3 : okBk 57 3 = true := by decide +kernel
theorem ok_57 : ∀ k, okBk 57 k = true := fun k => match k with
  | 0 => okb_57_0
  | 1 => okb_57_1
  | 2 => okb_57_2
  | 3 => okb_57_3
  | k + 4 => rfl
set_option maxRecDepth 100000 in
theorem cw_57 : twAt 4190 = some (.code ⟨"QuillBoats$River", "drying", "(III)I"⟩ prog_10_method_31_code 9 (some .int)) := rfl
set_option maxRecDepth 100000 in
theorem okb_58_0 : okBk 58 0 = true := by decide +kernel
theorem ok_58 : ∀ k, okBk 58 k = true := fun k => match k with
  | 0 => okb_58_0
  | k + 1 => rfl
set_option maxRecDepth 100000 in
theorem cw_58 : twAt 4206 = some (.code ⟨"QuillBoats$River", "hasPeeler", "(I)Z"⟩ prog_10_method_13_code 2 (some .boolean)) := rfl
set_option maxRecDepth 100000 in
theorem okb_59_0 : okBk 59 0 = true := by decide +kernel
set_option maxRecDepth 100000 in
theorem okb_59_1 : okBk 59 1 = true := by decide +kernel
set_option maxRecDepth 100000 in
theorem okb_59_2 : okBk 59 2 = true := by decide +kernel
set_option maxRecDepth 100000 in
theorem okb_59_3 : okBk 59 3 = true := by decide +kernel
theorem ok_59 : ∀ k, okBk 59 k = true := fun k => match k with
  | 0 => okb_59_0
  | 1 => okb_59_1
  | 2 => okb_59_2
  | 3 => okb_59_3
  | k + 4 => rfl
set_option maxRecDepth 100000 in
theorem cw_59 : twAt 4211 = some (.code ⟨"QuillBoats$River", "ofPeeler", "(II)I"⟩ prog_10_method_27_code 3 (some .int)) := rfl
set_option maxRecDepth 100000 in
theorem okb_60_0 : okBk 60 0 = true := by decide +kernel
theorem ok_60 : ∀ k, okBk 60 k = true := fun k => match k with
  | 0 => okb_60_0
  | k + 1 => rfl
set_option maxRecDepth 100000 in
theorem cw_60 : twAt 4220 = some (.code ⟨"QuillBoats$River", "hasBoat", "(I)Z"⟩ prog_10_method_14_code 2 (some .boolean)) := rfl
set_option maxRecDepth 100000 in
theorem okb_61_0 : okBk 61 0 = true := by decide +kernel
set_option maxRecDepth 100000 in
theorem okb_61_1 : okBk 61 1 = true := by decide +kernel
set_option maxRecDepth 100000 in
theorem okb_61_2 : okBk 61 2 = true := by decide +kernel
set_option maxRecDepth 100000 in
theorem okb_61_3 : okBk 61 3 = true := by decide +kernel
theorem ok_61 : ∀ k, okBk 61 k = true := fun k => match k with
  | 0 => okb_61_0
  | 1 => okb_61_1
  | 2 => okb_61_2
  | 3 => okb_61_3
  | k + 4 => rfl
set_option maxRecDepth 100000 in
theorem cw_61 : twAt 4225 = some (.code ⟨"QuillBoats$River", "ofBoat", "(II)I"⟩ prog_10_method_28_code 3 (some .int)) := rfl
set_option maxRecDepth 100000 in
theorem okb_62_0 : okBk 62 0 = true := by decide +kernel
set_option maxRecDepth 100000 in
theorem okb_62_1 : okBk 62 1 = true := by decide +kernel
theorem ok_62 : ∀ k, okBk 62 k = true := fun k => match k with
  | 0 => okb_62_0
  | 1 => okb_62_1
  | k + 2 => rfl
set_option maxRecDepth 100000 in
theorem cw_62 : twAt 5162 = some (.code ⟨"QuillBoats$Boat", "copyFrom", "(LQuillBoats$Boat;)V"⟩ prog_2_method_3_code 2 none) := rfl
set_option maxRecDepth 100000 in
theorem okb_63_0 : okBk 63 0 = true := by decide +kernel
set_option maxRecDepth 100000 in
theorem okb_63_1 : okBk 63 1 = true := by decide +kernel
set_option maxRecDepth 100000 in
theorem okb_63_2 : okBk 63 2 = true := by decide +kernel
set_option maxRecDepth 100000 in
theorem okb_63_3 : okBk 63 3 = true := by decide +kernel
theorem ok_63 : ∀ k, okBk 63 k = true := fun k => match k with
  | 0 => okb_63_0
  | 1 => okb_63_1
  | 2 => okb_63_2
  | 3 => okb_63_3
  | k + 4 => rfl
set_option maxRecDepth 100000 in
theorem cw_63 : twAt 5140 = some (.code ⟨"QuillBoats$Boat", "comesToMarket", "(II)Z"⟩ prog_2_method_4_code 3 (some .boolean)) := rfl
set_option maxRecDepth 100000 in
theorem okb_64_0 : okBk 64 0 = true := by decide +kernel
theorem ok_64 : ∀ k, okBk 64 k = true := fun k => match k with
  | 0 => okb_64_0
  | k + 1 => rfl
set_option maxRecDepth 100000 in
theorem cw_64 : twAt 4234 = some (.code ⟨"QuillBoats$River", "hasGrade", "(I)Z"⟩ prog_10_method_15_code 2 (some .boolean)) := rfl
set_option maxRecDepth 100000 in
theorem okb_65_0 : okBk 65 0 = true := by decide +kernel
set_option maxRecDepth 100000 in
theorem okb_65_1 : okBk 65 1 = true := by decide +kernel
set_option maxRecDepth 100000 in
theorem okb_65_2 : okBk 65 2 = true := by decide +kernel
set_option maxRecDepth 100000 in
theorem okb_65_3 : okBk 65 3 = true := by decide +kernel
theorem ok_65 : ∀ k, okBk 65 k = true := fun k => match k with
  | 0 => okb_65_0
  | 1 => okb_65_1
  | 2 => okb_65_2
  | 3 => okb_65_3
  | k + 4 => rfl
set_option maxRecDepth 100000 in
theorem cw_65 : twAt 4239 = some (.code ⟨"QuillBoats$River", "ofGrade", "(II)I"⟩ prog_10_method_29_code 3 (some .int)) := rfl
set_option maxRecDepth 100000 in
theorem okb_66_0 : okBk 66 0 = true := by decide +kernel
theorem ok_66 : ∀ k, okBk 66 k = true := fun k => match k with
  | 0 => okb_66_0
  | k + 1 => rfl
set_option maxRecDepth 100000 in
theorem cw_66 : twAt 5029 = some (.code ⟨"QuillBoats$Grade", "worthOf", "(I)I"⟩ prog_4_method_5_code 4 (some .int)) := rfl
set_option maxRecDepth 100000 in
theorem okb_67_0 : okBk 67 0 = true := by decide +kernel
set_option maxRecDepth 100000 in
theorem okb_67_1 : okBk 67 1 = true := by decide +kernel
set_option maxRecDepth 100000 in
theorem okb_67_2 : okBk 67 2 = true := by decide +kernel
set_option maxRecDepth 100000 in
theorem okb_67_3 : okBk 67 3 = true := by decide +kernel
theorem ok_67 : ∀ k, okBk 67 k = true := fun k => match k with
  | 0 => okb_67_0
  | 1 => okb_67_1
  | 2 => okb_67_2
  | 3 => okb_67_3
  | k + 4 => rfl
set_option maxRecDepth 100000 in
theorem cw_67 : twAt 5173 = some (.code ⟨"QuillBoats$River", "copyFrom", "(LQuillBoats$River;)V"⟩ prog_10_method_3_code 3 none) := rfl
set_option maxRecDepth 100000 in
theorem okb_68_0 : okBk 68 0 = true := by decide +kernel
theorem ok_68 : ∀ k, okBk 68 k = true := fun k => match k with
  | 0 => okb_68_0
  | k + 1 => rfl
set_option maxRecDepth 100000 in
theorem cw_68 : twAt 5039 = some (.code ⟨"QuillBoats", "letHoursGo", "(LQuillBoats$River;I)V"⟩ prog_1_method_25_code 4 none) := rfl
set_option maxRecDepth 100000 in
theorem okb_69_0 : okBk 69 0 = true := by decide +kernel
set_option maxRecDepth 100000 in
theorem okb_69_1 : okBk 69 1 = true := by decide +kernel
set_option maxRecDepth 100000 in
theorem okb_69_2 : okBk 69 2 = true := by decide +kernel
set_option maxRecDepth 100000 in
theorem okb_69_3 : okBk 69 3 = true := by decide +kernel
set_option maxRecDepth 100000 in
theorem okb_69_4 : okBk 69 4 = true := by decide +kernel
theorem ok_69 : ∀ k, okBk 69 k = true := fun k => match k with
  | 0 => okb_69_0
  | 1 => okb_69_1
  | 2 => okb_69_2
  | 3 => okb_69_3
  | 4 => okb_69_4
  | k + 5 => rfl
set_option maxRecDepth 100000 in
theorem cw_69 : twAt 4098 = some (.code ⟨"QuillBoats$River", "total", "(I)I"⟩ prog_10_method_18_code 2 (some .int)) := rfl
set_option maxRecDepth 100000 in
theorem okb_70_0 : okBk 70 0 = true := by decide +kernel
set_option maxRecDepth 100000 in
theorem okb_70_1 : okBk 70 1 = true := by decide +kernel
set_option maxRecDepth 100000 in
theorem okb_70_2 : okBk 70 2 = true := by decide +kernel
set_option maxRecDepth 100000 in
theorem okb_70_3 : okBk 70 3 = true := by decide +kernel
set_option maxRecDepth 100000 in
theorem okb_70_4 : okBk 70 4 = true := by decide +kernel
set_option maxRecDepth 100000 in
theorem okb_70_5 : okBk 70 5 = true := by decide +kernel
set_option maxRecDepth 100000 in
theorem okb_70_6 : okBk 70 6 = true := by decide +kernel
set_option maxRecDepth 100000 in
theorem okb_70_7 : okBk 70 7 = true := by decide +kernel
set_option maxRecDepth 100000 in
theorem okb_70_8 : okBk 70 8 = true := by decide +kernel
theorem ok_70 : ∀ k, okBk 70 k = true := fun k => match k with
  | 0 => okb_70_0
  | 1 => okb_70_1
  | 2 => okb_70_2
  | 3 => okb_70_3
  | 4 => okb_70_4
  | 5 => okb_70_5
  | 6 => okb_70_6
  | 7 => okb_70_7
  | 8 => okb_70_8
  | k + 9 => rfl
set_option maxRecDepth 100000 in
theorem cw_70 : twAt 5202 = some (.code ⟨"QuillBoatsLaw$Sim", "holds", "([I)Z"⟩ prog_14_method_10_code 4 (some .boolean)) := rfl
set_option maxRecDepth 100000 in
theorem okb_71_0 : okBk 71 0 = true := by decide +kernel
set_option maxRecDepth 100000 in
theorem okb_71_1 : okBk 71 1 = true := by decide +kernel
set_option maxRecDepth 100000 in
theorem okb_71_2 : okBk 71 2 = true := by decide +kernel
theorem ok_71 : ∀ k, okBk 71 k = true := fun k => match k with
  | 0 => okb_71_0
  | 1 => okb_71_1
  | 2 => okb_71_2
  | k + 3 => rfl
set_option maxRecDepth 100000 in
theorem cw_71 : twAt 5222 = some (.code ⟨"QuillBoatsLaw$Sim", "sum", "([I)I"⟩ prog_14_method_11_code 3 (some .int)) := rfl
set_option maxRecDepth 100000 in
theorem okb_72_0 : okBk 72 0 = true := by decide +kernel
set_option maxRecDepth 100000 in
theorem okb_72_1 : okBk 72 1 = true := by decide +kernel
theorem ok_72 : ∀ k, okBk 72 k = true := fun k => match k with
  | 0 => okb_72_0
  | 1 => okb_72_1
  | k + 2 => rfl
set_option maxRecDepth 100000 in
theorem cw_72 : twAt 5206 = some (.code ⟨"QuillBoatsLaw$Sim", "room", "(I)I"⟩ prog_14_method_4_code 7 (some .int)) := rfl
set_option maxRecDepth 100000 in
theorem okb_73_0 : okBk 73 0 = true := by decide +kernel
theorem ok_73 : ∀ k, okBk 73 k = true := fun k => match k with
  | 0 => okb_73_0
  | k + 1 => rfl
set_option maxRecDepth 100000 in
theorem cw_73 : twAt 5233 = some (.code ⟨"QuillBoatsLaw$Sim", "grade", "([I)I"⟩ prog_14_method_5_code 2 (some .int)) := rfl
set_option maxRecDepth 100000 in
theorem okb_74_0 : okBk 74 0 = true := by decide +kernel
theorem ok_74 : ∀ k, okBk 74 k = true := fun k => match k with
  | 0 => okb_74_0
  | k + 1 => rfl
set_option maxRecDepth 100000 in
theorem cw_74 : twAt 5210 = some (.code ⟨"QuillBoatsLaw$Sim", "priceOf", "(I)I"⟩ prog_14_method_6_code 3 (some .int)) := rfl
set_option maxRecDepth 100000 in
theorem okb_75_0 : okBk 75 0 = true := by decide +kernel
set_option maxRecDepth 100000 in
theorem okb_75_1 : okBk 75 1 = true := by decide +kernel
set_option maxRecDepth 100000 in
theorem okb_75_2 : okBk 75 2 = true := by decide +kernel
set_option maxRecDepth 100000 in
theorem okb_75_3 : okBk 75 3 = true := by decide +kernel
set_option maxRecDepth 100000 in
theorem okb_75_4 : okBk 75 4 = true := by decide +kernel
set_option maxRecDepth 100000 in
theorem okb_75_5 : okBk 75 5 = true := by decide +kernel
set_option maxRecDepth 100000 in
theorem okb_75_6 : okBk 75 6 = true := by decide +kernel
set_option maxRecDepth 100000 in
theorem okb_75_7 : okBk 75 7 = true := by decide +kernel
set_option maxRecDepth 100000 in
theorem okb_75_8 : okBk 75 8 = true := by decide +kernel
set_option maxRecDepth 100000 in
theorem okb_75_9 : okBk 75 9 = true := by decide +kernel
theorem ok_75 : ∀ k, okBk 75 k = true := fun k => match k with
  | 0 => okb_75_0
  | 1 => okb_75_1
  | 2 => okb_75_2
  | 3 => okb_75_3
  | 4 => okb_75_4
  | 5 => okb_75_5
  | 6 => okb_75_6
  | 7 => okb_75_7
  | 8 => okb_75_8
  | 9 => okb_75_9
  | k + 10 => rfl
set_option maxRecDepth 100000 in
theorem cw_75 : twAt 6003 = some (.code ⟨"QuillBoatsLaw$Sim", "counted", "(I)I"⟩ prog_14_method_14_code 13 (some .int)) := rfl
set_option maxRecDepth 100000 in
theorem okb_76_0 : okBk 76 0 = true := by decide +kernel
theorem ok_76 : ∀ k, okBk 76 k = true := fun k => match k with
  | 0 => okb_76_0
  | k + 1 => rfl
set_option maxRecDepth 100000 in
theorem cw_76 : twAt 6007 = some (.code ⟨"QuillBoats", "shade", "(I)I"⟩ prog_1_method_17_code 2 (some .int)) := rfl
set_option maxRecDepth 100000 in
theorem okb_77_0 : okBk 77 0 = true := by decide +kernel
set_option maxRecDepth 100000 in
theorem okb_77_1 : okBk 77 1 = true := by decide +kernel
set_option maxRecDepth 100000 in
theorem okb_77_2 : okBk 77 2 = true := by decide +kernel
theorem ok_77 : ∀ k, okBk 77 k = true := fun k => match k with
  | 0 => okb_77_0
  | 1 => okb_77_1
  | 2 => okb_77_2
  | k + 3 => rfl
set_option maxRecDepth 100000 in
theorem cw_77 : twAt 6018 = some (.code ⟨"QuillBoats", "mean", "()D"⟩ prog_1_method_30_code 3 (some .double)) := rfl
set_option maxRecDepth 100000 in
theorem okb_78_0 : okBk 78 0 = true := by decide +kernel
theorem ok_78 : ∀ k, okBk 78 k = true := fun k => match k with
  | 0 => okb_78_0
  | k + 1 => rfl
set_option maxRecDepth 100000 in
theorem cw_78 : twAt 2083 = some (.code ⟨"QuillBoats$Garden", "<init>", "()V"⟩ prog_3_method_1_code 1 none) := rfl
set_option maxRecDepth 100000 in
theorem okb_79_0 : okBk 79 0 = true := by decide +kernel
set_option maxRecDepth 100000 in
theorem okb_79_1 : okBk 79 1 = true := by decide +kernel
theorem ok_79 : ∀ k, okBk 79 k = true := fun k => match k with
  | 0 => okb_79_0
  | 1 => okb_79_1
  | k + 2 => rfl
set_option maxRecDepth 100000 in
theorem cw_79 : twAt 2104 = some (.code ⟨"QuillBoats$Rack", "<init>", "()V"⟩ prog_9_method_1_code 1 none) := rfl
set_option maxRecDepth 100000 in
theorem okb_80_0 : okBk 80 0 = true := by decide +kernel
set_option maxRecDepth 100000 in
theorem okb_80_1 : okBk 80 1 = true := by decide +kernel
theorem ok_80 : ∀ k, okBk 80 k = true := fun k => match k with
  | 0 => okb_80_0
  | 1 => okb_80_1
  | k + 2 => rfl
set_option maxRecDepth 100000 in
theorem cw_80 : twAt 2133 = some (.code ⟨"QuillBoats$Peeler", "<init>", "()V"⟩ prog_8_method_1_code 1 none) := rfl
set_option maxRecDepth 100000 in
theorem okb_81_0 : okBk 81 0 = true := by decide +kernel
set_option maxRecDepth 100000 in
theorem okb_81_1 : okBk 81 1 = true := by decide +kernel
theorem ok_81 : ∀ k, okBk 81 k = true := fun k => match k with
  | 0 => okb_81_0
  | 1 => okb_81_1
  | k + 2 => rfl
set_option maxRecDepth 100000 in
theorem cw_81 : twAt 2172 = some (.code ⟨"QuillBoats$Boat", "<init>", "()V"⟩ prog_2_method_1_code 1 none) := rfl
set_option maxRecDepth 100000 in
theorem okb_82_0 : okBk 82 0 = true := by decide +kernel
theorem ok_82 : ∀ k, okBk 82 k = true := fun k => match k with
  | 0 => okb_82_0
  | k + 1 => rfl
set_option maxRecDepth 100000 in
theorem cw_82 : twAt 2210 = some (.code ⟨"QuillBoats$Grade", "<init>", "()V"⟩ prog_4_method_1_code 1 none) := rfl
set_option maxRecDepth 100000 in
theorem okb_83_0 : okBk 83 0 = true := by decide +kernel
set_option maxRecDepth 100000 in
theorem okb_83_1 : okBk 83 1 = true := by decide +kernel
set_option maxRecDepth 100000 in
theorem okb_83_2 : okBk 83 2 = true := by decide +kernel
set_option maxRecDepth 100000 in
theorem okb_83_3 : okBk 83 3 = true := by decide +kernel
theorem ok_83 : ∀ k, okBk 83 k = true := fun k => match k with
  | 0 => okb_83_0
  | 1 => okb_83_1
  | 2 => okb_83_2
  | 3 => okb_83_3
  | k + 4 => rfl
set_option maxRecDepth 100000 in
theorem cw_83 : twAt 2234 = some (.code ⟨"QuillBoats$River", "beginAnew", "()V"⟩ prog_10_method_2_code 2 none) := rfl
set_option maxRecDepth 100000 in
theorem okb_84_0 : okBk 84 0 = true := by decide +kernel
set_option maxRecDepth 100000 in
theorem okb_84_1 : okBk 84 1 = true := by decide +kernel
theorem ok_84 : ∀ k, okBk 84 k = true := fun k => match k with
  | 0 => okb_84_0
  | 1 => okb_84_1
  | k + 2 => rfl
set_option maxRecDepth 100000 in
theorem cw_84 : twAt 3080 = some (.code ⟨"QuillBoats$Grammar", "<init>", "()V"⟩ prog_5_method_1_code 1 none) := rfl
set_option maxRecDepth 100000 in
theorem okb_85_0 : okBk 85 0 = true := by decide +kernel
theorem ok_85 : ∀ k, okBk 85 k = true := fun k => match k with
  | 0 => okb_85_0
  | k + 1 => rfl
set_option maxRecDepth 100000 in
theorem cw_85 : twAt 3187 = some (.code ⟨"QuillBoats$Roll", "<init>", "(I)V"⟩ prog_11_method_1_code 2 none) := rfl
set_option maxRecDepth 100000 in
theorem okb_86_0 : okBk 86 0 = true := by decide +kernel
set_option maxRecDepth 100000 in
theorem okb_86_1 : okBk 86 1 = true := by decide +kernel
theorem ok_86 : ∀ k, okBk 86 k = true := fun k => match k with
  | 0 => okb_86_0
  | 1 => okb_86_1
  | k + 2 => rfl
set_option maxRecDepth 100000 in
theorem cw_86 : twAt 6030 = some (.code ⟨"java/lang/AbstractStringBuilder", "<init>", "(I)V"⟩ prog_18_method_2_code 2 none) := rfl
set_option maxRecDepth 100000 in
theorem okb_87_0 : okBk 87 0 = true := by decide +kernel
set_option maxRecDepth 100000 in
theorem okb_87_1 : okBk 87 1 = true := by decide +kernel
theorem ok_87 : ∀ k, okBk 87 k = true := fun k => match k with
  | 0 => okb_87_0
  | 1 => okb_87_1
  | k + 2 => rfl
set_option maxRecDepth 100000 in
theorem cw_87 : twAt 6060 = some (.code ⟨"java/lang/AbstractStringBuilder", "append", "(Ljava/lang/String;)Ljava/lang/AbstractStringBuilder;"⟩ prog_18_method_22_code 3 (some (.object "java/lang/AbstractStringBuilder"))) := rfl
set_option maxRecDepth 100000 in
theorem okb_88_0 : okBk 88 0 = true := by decide +kernel
set_option maxRecDepth 100000 in
theorem okb_88_1 : okBk 88 1 = true := by decide +kernel
theorem ok_88 : ∀ k, okBk 88 k = true := fun k => match k with
  | 0 => okb_88_0
  | 1 => okb_88_1
  | k + 2 => rfl
set_option maxRecDepth 100000 in
theorem cw_88 : twAt 6157 = some (.code ⟨"java/lang/AbstractStringBuilder", "append", "(I)Ljava/lang/AbstractStringBuilder;"⟩ prog_18_method_32_code 4 (some (.object "java/lang/AbstractStringBuilder"))) := rfl
set_option maxRecDepth 100000 in
theorem okb_89_0 : okBk 89 0 = true := by decide +kernel
set_option maxRecDepth 100000 in
theorem okb_89_1 : okBk 89 1 = true := by decide +kernel
set_option maxRecDepth 100000 in
theorem okb_89_2 : okBk 89 2 = true := by decide +kernel
theorem ok_89 : ∀ k, okBk 89 k = true := fun k => match k with
  | 0 => okb_89_0
  | 1 => okb_89_1
  | 2 => okb_89_2
  | k + 3 => rfl
set_option maxRecDepth 100000 in
theorem cw_89 : twAt 6202 = some (.code ⟨"java/lang/AbstractStringBuilder", "append", "(C)Ljava/lang/AbstractStringBuilder;"⟩ prog_18_method_31_code 2 (some (.object "java/lang/AbstractStringBuilder"))) := rfl
set_option maxRecDepth 100000 in
theorem okb_90_0 : okBk 90 0 = true := by decide +kernel
theorem ok_90 : ∀ k, okBk 90 k = true := fun k => match k with
  | 0 => okb_90_0
  | k + 1 => rfl
set_option maxRecDepth 100000 in
theorem cw_90 : twAt 6224 = some (.code ⟨"java/lang/String", "<init>", "(Ljava/lang/StringBuilder;)V"⟩ prog_28_method_53_code 2 none) := rfl
set_option maxRecDepth 100000 in
theorem okb_91_0 : okBk 91 0 = true := by decide +kernel
theorem ok_91 : ∀ k, okBk 91 k = true := fun k => match k with
  | 0 => okb_91_0
  | k + 1 => rfl
set_option maxRecDepth 100000 in
theorem cw_91 : twAt 3096 = some (.code ⟨"java/lang/String", "coder", "()B"⟩ prog_28_method_152_code 1 (some .byte)) := rfl
set_option maxRecDepth 100000 in
theorem okb_92_0 : okBk 92 0 = true := by decide +kernel
theorem ok_92 : ∀ k, okBk 92 k = true := fun k => match k with
  | 0 => okb_92_0
  | k + 1 => rfl
set_option maxRecDepth 100000 in
theorem cw_92 : twAt 3106 = some (.code ⟨"java/lang/String", "isLatin1", "()Z"⟩ prog_28_method_154_code 1 (some .boolean)) := rfl
set_option maxRecDepth 100000 in
theorem okb_93_0 : okBk 93 0 = true := by decide +kernel
theorem ok_93 : ∀ k, okBk 93 k = true := fun k => match k with
  | 0 => okb_93_0
  | k + 1 => rfl
set_option maxRecDepth 100000 in
theorem cw_93 : twAt 3109 = some (.code ⟨"java/lang/StringLatin1", "charAt", "([BI)C"⟩ prog_30_method_2_code 2 (some .char)) := rfl
set_option maxRecDepth 100000 in
theorem okb_94_0 : okBk 94 0 = true := by decide +kernel
set_option maxRecDepth 100000 in
theorem okb_94_1 : okBk 94 1 = true := by decide +kernel
theorem ok_94 : ∀ k, okBk 94 k = true := fun k => match k with
  | 0 => okb_94_0
  | 1 => okb_94_1
  | k + 2 => rfl
set_option maxRecDepth 100000 in
theorem cw_94 : twAt 7098 = some (.code ⟨"QuillBoats", "append", "(I)V"⟩ prog_1_method_3_code 3 none) := rfl
set_option maxRecDepth 100000 in
theorem okb_95_0 : okBk 95 0 = true := by decide +kernel
set_option maxRecDepth 100000 in
theorem okb_95_1 : okBk 95 1 = true := by decide +kernel
set_option maxRecDepth 100000 in
theorem okb_95_2 : okBk 95 2 = true := by decide +kernel
set_option maxRecDepth 100000 in
theorem okb_95_3 : okBk 95 3 = true := by decide +kernel
theorem ok_95 : ∀ k, okBk 95 k = true := fun k => match k with
  | 0 => okb_95_0
  | 1 => okb_95_1
  | 2 => okb_95_2
  | 3 => okb_95_3
  | k + 4 => rfl
set_option maxRecDepth 100000 in
theorem cw_95 : twAt 7111 = some (.code ⟨"QuillBoats$Tokens", "split", "([BI)V"⟩ prog_12_method_5_code 6 none) := rfl
set_option maxRecDepth 100000 in
theorem okb_96_0 : okBk 96 0 = true := by decide +kernel
set_option maxRecDepth 100000 in
theorem okb_96_1 : okBk 96 1 = true := by decide +kernel
set_option maxRecDepth 100000 in
theorem okb_96_2 : okBk 96 2 = true := by decide +kernel
theorem ok_96 : ∀ k, okBk 96 k = true := fun k => match k with
  | 0 => okb_96_0
  | 1 => okb_96_1
  | 2 => okb_96_2
  | k + 3 => rfl
set_option maxRecDepth 100000 in
theorem cw_96 : twAt 7201 = some (.code ⟨"QuillBoats$Grammar", "readsList", "()Z"⟩ prog_5_method_3_code 2 (some .boolean)) := rfl
set_option maxRecDepth 100000 in
theorem okb_97_0 : okBk 97 0 = true := by decide +kernel
theorem ok_97 : ∀ k, okBk 97 k = true := fun k => match k with
  | 0 => okb_97_0
  | k + 1 => rfl
set_option maxRecDepth 100000 in
theorem cw_97 : twAt 8038 = some (.code ⟨"QuillBoats$Grammar", "place", "()I"⟩ prog_5_method_2_code 1 (some .int)) := rfl
set_option maxRecDepth 100000 in
theorem okb_98_0 : okBk 98 0 = true := by decide +kernel
theorem ok_98 : ∀ k, okBk 98 k = true := fun k => match k with
  | 0 => okb_98_0
  | k + 1 => rfl
set_option maxRecDepth 100000 in
theorem cw_98 : twAt 8042 = some (.code ⟨"QuillBoats$Tokens", "startOf", "(I)I"⟩ prog_12_method_15_code 2 (some .int)) := rfl
set_option maxRecDepth 100000 in
theorem okb_99_0 : okBk 99 0 = true := by decide +kernel
set_option maxRecDepth 100000 in
theorem okb_99_1 : okBk 99 1 = true := by decide +kernel
set_option maxRecDepth 100000 in
theorem okb_99_2 : okBk 99 2 = true := by decide +kernel
theorem ok_99 : ∀ k, okBk 99 k = true := fun k => match k with
  | 0 => okb_99_0
  | 1 => okb_99_1
  | 2 => okb_99_2
  | k + 3 => rfl
set_option maxRecDepth 100000 in
theorem cw_99 : twAt 8047 = some (.code ⟨"QuillBoats$Names", "lookAtAll", "()I"⟩ prog_6_method_3_code 3 (some .int)) := rfl
set_option maxRecDepth 100000 in
theorem okb_100_0 : okBk 100 0 = true := by decide +kernel
theorem ok_100 : ∀ k, okBk 100 k = true := fun k => match k with
  | 0 => okb_100_0
  | k + 1 => rfl
set_option maxRecDepth 100000 in
theorem cw_100 : twAt 8150 = some (.code ⟨"QuillBoats$Names", "place", "()I"⟩ prog_6_method_2_code 1 (some .int)) := rfl
set_option maxRecDepth 100000 in
theorem okb_101_0 : okBk 101 0 = true := by decide +kernel
set_option maxRecDepth 100000 in
theorem okb_101_1 : okBk 101 1 = true := by decide +kernel
theorem ok_101 : ∀ k, okBk 101 k = true := fun k => match k with
  | 0 => okb_101_0
  | 1 => okb_101_1
  | k + 2 => rfl
set_option maxRecDepth 100000 in
theorem cw_101 : twAt 8154 = some (.code ⟨"QuillBoats", "takeWhatWasTold", "()V"⟩ prog_1_method_6_code 1 none) := rfl
set_option maxRecDepth 100000 in
theorem okb_102_0 : okBk 102 0 = true := by decide +kernel
set_option maxRecDepth 100000 in
theorem okb_102_1 : okBk 102 1 = true := by decide +kernel
set_option maxRecDepth 100000 in
theorem okb_102_2 : okBk 102 2 = true := by decide +kernel
theorem ok_102 : ∀ k, okBk 102 k = true := fun k => match k with
  | 0 => okb_102_0
  | 1 => okb_102_1
  | 2 => okb_102_2
  | k + 3 => rfl
set_option maxRecDepth 100000 in
theorem cw_102 : twAt 5064 = some (.code ⟨"QuillBoats$River", "whetsKnife", "(I)Z"⟩ prog_10_method_32_code 2 (some .boolean)) := rfl
set_option maxRecDepth 100000 in
theorem okb_103_0 : okBk 103 0 = true := by decide +kernel
set_option maxRecDepth 100000 in
theorem okb_103_1 : okBk 103 1 = true := by decide +kernel
set_option maxRecDepth 100000 in
theorem okb_103_2 : okBk 103 2 = true := by decide +kernel
set_option maxRecDepth 100000 in
theorem okb_103_3 : okBk 103 3 = true := by decide +kernel
theorem ok_103 : ∀ k, okBk 103 k = true := fun k => match k with
  | 0 => okb_103_0
  | 1 => okb_103_1
  | 2 => okb_103_2
  | 3 => okb_103_3
  | k + 4 => rfl
set_option maxRecDepth 100000 in
theorem cw_103 : twAt 5074 = some (.code ⟨"QuillBoats$River", "loadBoat", "(III)I"⟩ prog_10_method_33_code 5 (some .int)) := rfl
set_option maxRecDepth 100000 in
theorem okb_104_0 : okBk 104 0 = true := by decide +kernel
set_option maxRecDepth 100000 in
theorem okb_104_1 : okBk 104 1 = true := by decide +kernel
theorem ok_104 : ∀ k, okBk 104 k = true := fun k => match k with
  | 0 => okb_104_0
  | 1 => okb_104_1
  | k + 2 => rfl
set_option maxRecDepth 100000 in
theorem cw_104 : twAt 4132 = some (.code ⟨"QuillBoats$River", "peelersOfGarden", "(I)I"⟩ prog_10_method_23_code 4 (some .int)) := rfl
set_option maxRecDepth 100000 in
theorem okb_105_0 : okBk 105 0 = true := by decide +kernel
theorem ok_105 : ∀ k, okBk 105 k = true := fun k => match k with
  | 0 => okb_105_0
  | k + 1 => rfl
set_option maxRecDepth 100000 in
theorem cw_105 : twAt 4150 = some (.code ⟨"QuillBoats$Rack", "free", "()I"⟩ prog_9_method_6_code 1 (some .int)) := rfl
set_option maxRecDepth 100000 in
theorem okb_106_0 : okBk 106 0 = true := by decide +kernel
theorem ok_106 : ∀ k, okBk 106 k = true := fun k => match k with
  | 0 => okb_106_0
  | k + 1 => rfl
set_option maxRecDepth 100000 in
theorem cw_106 : twAt 4154 = some (.code ⟨"QuillBoats$Rack", "bundles", "()I"⟩ prog_9_method_4_code 1 (some .int)) := rfl
set_option maxRecDepth 100000 in
theorem okb_107_0 : okBk 107 0 = true := by decide +kernel
set_option maxRecDepth 100000 in
theorem okb_107_1 : okBk 107 1 = true := by decide +kernel
theorem ok_107 : ∀ k, okBk 107 k = true := fun k => match k with
  | 0 => okb_107_0
  | 1 => okb_107_1
  | k + 2 => rfl
set_option maxRecDepth 100000 in
theorem cw_107 : twAt 4158 = some (.code ⟨"QuillBoats$River", "peelersToRack", "(I)I"⟩ prog_10_method_25_code 4 (some .int)) := rfl
set_option maxRecDepth 100000 in
theorem okb_108_0 : okBk 108 0 = true := by decide +kernel
set_option maxRecDepth 100000 in
theorem okb_108_1 : okBk 108 1 = true := by decide +kernel
set_option maxRecDepth 100000 in
theorem okb_108_2 : okBk 108 2 = true := by decide +kernel
theorem ok_108 : ∀ k, okBk 108 k = true := fun k => match k with
  | 0 => okb_108_0
  | 1 => okb_108_1
  | 2 => okb_108_2
  | k + 3 => rfl
set_option maxRecDepth 100000 in
theorem cw_108 : twAt 4175 = some (.code ⟨"QuillBoats$Rack", "tell", "(II)I"⟩ prog_9_method_8_code 3 (some .int)) := rfl
set_option maxRecDepth 100000 in
theorem okb_109_0 : okBk 109 0 = true := by decide +kernel
theorem ok_109 : ∀ k, okBk 109 k = true := fun k => match k with
  | 0 => okb_109_0
  | k + 1 => rfl
set_option maxRecDepth 100000 in
theorem cw_109 : twAt 4194 = some (.code ⟨"java/lang/Math", "floorMod", "(II)I"⟩ prog_26_method_50_code 3 (some .int)) := rfl
set_option maxRecDepth 100000 in
theorem okb_110_0 : okBk 110 0 = true := by decide +kernel
theorem ok_110 : ∀ k, okBk 110 k = true := fun k => match k with
  | 0 => okb_110_0
  | k + 1 => rfl
set_option maxRecDepth 100000 in
theorem cw_110 : twAt 4197 = some (.code ⟨"QuillBoats$Rack", "isDry", "(II)Z"⟩ prog_9_method_10_code 2 (some .boolean)) := rfl
set_option maxRecDepth 100000 in
theorem okb_111_0 : okBk 111 0 = true := by decide +kernel
theorem ok_111 : ∀ k, okBk 111 k = true := fun k => match k with
  | 0 => okb_111_0
  | k + 1 => rfl
set_option maxRecDepth 100000 in
theorem cw_111 : twAt 4178 = some (.code ⟨"QuillBoats$Rack", "gradeOf", "(II)I"⟩ prog_9_method_9_code 2 (some .int)) := rfl
set_option maxRecDepth 100000 in
theorem okb_112_0 : okBk 112 0 = true := by decide +kernel
theorem ok_112 : ∀ k, okBk 112 k = true := fun k => match k with
  | 0 => okb_112_0
  | k + 1 => rfl
set_option maxRecDepth 100000 in
theorem cw_112 : twAt 5004 = some (.code ⟨"QuillBoats$Grade", "priceAt", "(I)I"⟩ prog_4_method_4_code 3 (some .int)) := rfl
set_option maxRecDepth 100000 in
theorem okb_113_0 : okBk 113 0 = true := by decide +kernel
set_option maxRecDepth 100000 in
theorem okb_113_1 : okBk 113 1 = true := by decide +kernel
set_option maxRecDepth 100000 in
theorem okb_113_2 : okBk 113 2 = true := by decide +kernel
set_option maxRecDepth 100000 in
theorem okb_113_3 : okBk 113 3 = true := by decide +kernel
set_option maxRecDepth 100000 in
theorem okb_113_4 : okBk 113 4 = true := by decide +kernel
set_option maxRecDepth 100000 in
theorem okb_113_5 : okBk 113 5 = true := by decide +kernel
theorem ok_113 : ∀ k, okBk 113 k = true := fun k => match k with
  | 0 => okb_113_0
  | 1 => okb_113_1
  | 2 => okb_113_2
  | 3 => okb_113_3
  | 4 => okb_113_4
  | 5 => okb_113_5
  | k + 6 => rfl
set_option maxRecDepth 100000 in
theorem cw_113 : twAt 5177 = some (.code ⟨"QuillBoats$River", "copyAllFrom", "(LQuillBoats$River;)V"⟩ prog_10_method_4_code 3 none) := rfl
set_option maxRecDepth 100000 in
theorem okb_114_0 : okBk 114 0 = true := by decide +kernel
set_option maxRecDepth 100000 in
theorem okb_114_1 : okBk 114 1 = true := by decide +kernel
set_option maxRecDepth 100000 in
theorem okb_114_2 : okBk 114 2 = true := by decide +kernel
set_option maxRecDepth 100000 in
theorem okb_114_3 : okBk 114 3 = true := by decide +kernel
set_option maxRecDepth 100000 in
theorem okb_114_4 : okBk 114 4 = true := by decide +kernel
set_option maxRecDepth 100000 in
theorem okb_114_5 : okBk 114 5 = true := by decide +kernel
theorem ok_114 : ∀ k, okBk 114 k = true := fun k => match k with
  | 0 => okb_114_0
  | 1 => okb_114_1
  | 2 => okb_114_2
  | 3 => okb_114_3
  | 4 => okb_114_4
  | 5 => okb_114_5
  | k + 6 => rfl
set_option maxRecDepth 100000 in
theorem cw_114 : twAt 5043 = some (.code ⟨"QuillBoats$River", "letHourGo", "(LQuillBoats$Orders;)V"⟩ prog_10_method_34_code 4 none) := rfl
set_option maxRecDepth 100000 in
theorem okb_115_0 : okBk 115 0 = true := by decide +kernel
theorem ok_115 : ∀ k, okBk 115 k = true := fun k => match k with
  | 0 => okb_115_0
  | k + 1 => rfl
set_option maxRecDepth 100000 in
theorem cw_115 : twAt 4102 = some (.code ⟨"QuillBoats$River", "storedQuills", "()I"⟩ prog_10_method_19_code 3 (some .int)) := rfl
set_option maxRecDepth 100000 in
theorem okb_116_0 : okBk 116 0 = true := by decide +kernel
set_option maxRecDepth 100000 in
theorem okb_116_1 : okBk 116 1 = true := by decide +kernel
theorem ok_116 : ∀ k, okBk 116 k = true := fun k => match k with
  | 0 => okb_116_0
  | 1 => okb_116_1
  | k + 2 => rfl
set_option maxRecDepth 100000 in
theorem cw_116 : twAt 4106 = some (.code ⟨"QuillBoats$River", "dryingQuills", "()I"⟩ prog_10_method_20_code 3 (some .int)) := rfl
set_option maxRecDepth 100000 in
theorem okb_117_0 : okBk 117 0 = true := by decide +kernel
set_option maxRecDepth 100000 in
theorem okb_117_1 : okBk 117 1 = true := by decide +kernel
theorem ok_117 : ∀ k, okBk 117 k = true := fun k => match k with
  | 0 => okb_117_0
  | 1 => okb_117_1
  | k + 2 => rfl
set_option maxRecDepth 100000 in
theorem cw_117 : twAt 4114 = some (.code ⟨"QuillBoats$River", "shippedQuills", "()I"⟩ prog_10_method_21_code 3 (some .int)) := rfl
set_option maxRecDepth 100000 in
theorem okb_118_0 : okBk 118 0 = true := by decide +kernel
theorem ok_118 : ∀ k, okBk 118 k = true := fun k => match k with
  | 0 => okb_118_0
  | k + 1 => rfl
set_option maxRecDepth 100000 in
theorem cw_118 : twAt 2238 = some (.code ⟨"QuillBoats$Grade", "clear", "(I)V"⟩ prog_4_method_2_code 2 none) := rfl
set_option maxRecDepth 100000 in
theorem okb_119_0 : okBk 119 0 = true := by decide +kernel
set_option maxRecDepth 100000 in
theorem okb_119_1 : okBk 119 1 = true := by decide +kernel
set_option maxRecDepth 100000 in
theorem okb_119_2 : okBk 119 2 = true := by decide +kernel
set_option maxRecDepth 100000 in
theorem okb_119_3 : okBk 119 3 = true := by decide +kernel
set_option maxRecDepth 100000 in
theorem okb_119_4 : okBk 119 4 = true := by decide +kernel
theorem ok_119 : ∀ k, okBk 119 k = true := fun k => match k with
  | 0 => okb_119_0
  | 1 => okb_119_1
  | 2 => okb_119_2
  | 3 => okb_119_3
  | 4 => okb_119_4
  | k + 5 => rfl
set_option maxRecDepth 100000 in
theorem cw_119 : twAt 3086 = some (.code ⟨"QuillBoats$Tokens", "<init>", "()V"⟩ prog_12_method_1_code 6 none) := rfl
set_option maxRecDepth 100000 in
theorem okb_120_0 : okBk 120 0 = true := by decide +kernel
set_option maxRecDepth 100000 in
theorem okb_120_1 : okBk 120 1 = true := by decide +kernel
theorem ok_120 : ∀ k, okBk 120 k = true := fun k => match k with
  | 0 => okb_120_0
  | 1 => okb_120_1
  | k + 2 => rfl
set_option maxRecDepth 100000 in
theorem cw_120 : twAt 6068 = some (.code ⟨"java/lang/AbstractStringBuilder", "ensureCapacityInternal", "(I)V"⟩ prog_18_method_9_code 3 none) := rfl
set_option maxRecDepth 100000 in
theorem okb_121_0 : okBk 121 0 = true := by decide +kernel
theorem ok_121 : ∀ k, okBk 121 k = true := fun k => match k with
  | 0 => okb_121_0
  | k + 1 => rfl
set_option maxRecDepth 100000 in
theorem cw_121 : twAt 6120 = some (.code ⟨"java/lang/AbstractStringBuilder", "putStringAt", "(ILjava/lang/String;)V"⟩ prog_18_method_73_code 3 none) := rfl
set_option maxRecDepth 100000 in
theorem okb_122_0 : okBk 122 0 = true := by decide +kernel
set_option maxRecDepth 100000 in
theorem okb_122_1 : okBk 122 1 = true := by decide +kernel
theorem ok_122 : ∀ k, okBk 122 k = true := fun k => match k with
  | 0 => okb_122_0
  | 1 => okb_122_1
  | k + 2 => rfl
set_option maxRecDepth 100000 in
theorem cw_122 : twAt 6160 = some (.code ⟨"java/lang/Integer", "stringSize", "(I)I"⟩ prog_25_method_13_code 4 (some .int)) := rfl
set_option maxRecDepth 100000 in
theorem okb_123_0 : okBk 123 0 = true := by decide +kernel
theorem ok_123 : ∀ k, okBk 123 k = true := fun k => match k with
  | 0 => okb_123_0
  | k + 1 => rfl
set_option maxRecDepth 100000 in
theorem cw_123 : twAt 6100 = some (.code ⟨"java/lang/AbstractStringBuilder", "isLatin1", "()Z"⟩ prog_18_method_68_code 1 (some .boolean)) := rfl
set_option maxRecDepth 100000 in
theorem okb_124_0 : okBk 124 0 = true := by decide +kernel
set_option maxRecDepth 100000 in
theorem okb_124_1 : okBk 124 1 = true := by decide +kernel
set_option maxRecDepth 100000 in
theorem okb_124_2 : okBk 124 2 = true := by decide +kernel
set_option maxRecDepth 100000 in
theorem okb_124_3 : okBk 124 3 = true := by decide +kernel
theorem ok_124 : ∀ k, okBk 124 k = true := fun k => match k with
  | 0 => okb_124_0
  | 1 => okb_124_1
  | 2 => okb_124_2
  | 3 => okb_124_3
  | k + 4 => rfl
set_option maxRecDepth 100000 in
theorem cw_124 : twAt 6163 = some (.code ⟨"java/lang/Integer", "getChars", "(II[B)I"⟩ prog_25_method_12_code 7 (some .int)) := rfl
set_option maxRecDepth 100000 in
theorem okb_125_0 : okBk 125 0 = true := by decide +kernel
theorem ok_125 : ∀ k, okBk 125 k = true := fun k => match k with
  | 0 => okb_125_0
  | k + 1 => rfl
set_option maxRecDepth 100000 in
theorem cw_125 : twAt 6205 = some (.code ⟨"java/lang/StringLatin1", "canEncode", "(C)Z"⟩ prog_30_method_3_code 1 (some .boolean)) := rfl
set_option maxRecDepth 100000 in
theorem okb_126_0 : okBk 126 0 = true := by decide +kernel
set_option maxRecDepth 100000 in
theorem okb_126_1 : okBk 126 1 = true := by decide +kernel
set_option maxRecDepth 100000 in
theorem okb_126_2 : okBk 126 2 = true := by decide +kernel
set_option maxRecDepth 100000 in
theorem okb_126_3 : okBk 126 3 = true := by decide +kernel
theorem ok_126 : ∀ k, okBk 126 k = true := fun k => match k with
  | 0 => okb_126_0
  | 1 => okb_126_1
  | 2 => okb_126_2
  | 3 => okb_126_3
  | k + 4 => rfl
set_option maxRecDepth 100000 in
theorem cw_126 : twAt 6227 = some (.code ⟨"java/lang/String", "<init>", "(Ljava/lang/AbstractStringBuilder;Ljava/lang/Void;)V"⟩ prog_28_method_150_code 5 none) := rfl
set_option maxRecDepth 100000 in
theorem okb_127_0 : okBk 127 0 = true := by decide +kernel
theorem ok_127 : ∀ k, okBk 127 k = true := fun k => match k with
  | 0 => okb_127_0
  | k + 1 => rfl
set_option maxRecDepth 100000 in
theorem cw_127 : twAt 3112 = some (.code ⟨"java/lang/String", "checkIndex", "(II)V"⟩ prog_28_method_155_code 2 none) := rfl
set_option maxRecDepth 100000 in
theorem okb_128_0 : okBk 128 0 = true := by decide +kernel
set_option maxRecDepth 100000 in
theorem okb_128_1 : okBk 128 1 = true := by decide +kernel
theorem ok_128 : ∀ k, okBk 128 k = true := fun k => match k with
  | 0 => okb_128_0
  | 1 => okb_128_1
  | k + 2 => rfl
set_option maxRecDepth 100000 in
theorem cw_128 : twAt 7115 = some (.code ⟨"QuillBoats$Tokens", "behindBlanks", "([BII)I"⟩ prog_12_method_6_code 4 (some .int)) := rfl
set_option maxRecDepth 100000 in
theorem okb_129_0 : okBk 129 0 = true := by decide +kernel
set_option maxRecDepth 100000 in
theorem okb_129_1 : okBk 129 1 = true := by decide +kernel
set_option maxRecDepth 100000 in
theorem okb_129_2 : okBk 129 2 = true := by decide +kernel
set_option maxRecDepth 100000 in
theorem okb_129_3 : okBk 129 3 = true := by decide +kernel
set_option maxRecDepth 100000 in
theorem okb_129_4 : okBk 129 4 = true := by decide +kernel
theorem ok_129 : ∀ k, okBk 129 k = true := fun k => match k with
  | 0 => okb_129_0
  | 1 => okb_129_1
  | 2 => okb_129_2
  | 3 => okb_129_3
  | 4 => okb_129_4
  | k + 5 => rfl
set_option maxRecDepth 100000 in
theorem cw_129 : twAt 7120 = some (.code ⟨"QuillBoats$Tokens", "behindToken", "([BIII)I"⟩ prog_12_method_8_code 8 (some .int)) := rfl
set_option maxRecDepth 100000 in
theorem okb_130_0 : okBk 130 0 = true := by decide +kernel
theorem ok_130 : ∀ k, okBk 130 k = true := fun k => match k with
  | 0 => okb_130_0
  | k + 1 => rfl
set_option maxRecDepth 100000 in
theorem cw_130 : twAt 7197 = some (.code ⟨"QuillBoats$Tokens", "behindLast", "(III)I"⟩ prog_12_method_7_code 4 (some .int)) := rfl
set_option maxRecDepth 100000 in
theorem okb_131_0 : okBk 131 0 = true := by decide +kernel
set_option maxRecDepth 100000 in
theorem okb_131_1 : okBk 131 1 = true := by decide +kernel
theorem ok_131 : ∀ k, okBk 131 k = true := fun k => match k with
  | 0 => okb_131_0
  | 1 => okb_131_1
  | k + 2 => rfl
set_option maxRecDepth 100000 in
theorem cw_131 : twAt 7205 = some (.code ⟨"QuillBoats$Tokens", "kindOf", "(I)I"⟩ prog_12_method_14_code 2 (some .int)) := rfl
set_option maxRecDepth 100000 in
theorem okb_132_0 : okBk 132 0 = true := by decide +kernel
theorem ok_132 : ∀ k, okBk 132 k = true := fun k => match k with
  | 0 => okb_132_0
  | k + 1 => rfl
set_option maxRecDepth 100000 in
theorem cw_132 : twAt 7209 = some (.code ⟨"QuillBoats$Orders", "clear", "()V"⟩ prog_7_method_2_code 1 none) := rfl
set_option maxRecDepth 100000 in
theorem okb_133_0 : okBk 133 0 = true := by decide +kernel
set_option maxRecDepth 100000 in
theorem okb_133_1 : okBk 133 1 = true := by decide +kernel
set_option maxRecDepth 100000 in
theorem okb_133_2 : okBk 133 2 = true := by decide +kernel
set_option maxRecDepth 100000 in
theorem okb_133_3 : okBk 133 3 = true := by decide +kernel
set_option maxRecDepth 100000 in
theorem okb_133_4 : okBk 133 4 = true := by decide +kernel
set_option maxRecDepth 100000 in
theorem okb_133_5 : okBk 133 5 = true := by decide +kernel
set_option maxRecDepth 100000 in
theorem okb_133_6 : okBk 133 6 = true := by decide +kernel
set_option maxRecDepth 100000 in
theorem okb_133_7 : okBk 133 7 = true := by decide +kernel
set_option maxRecDepth 100000 in
theorem okb_133_8 : okBk 133 8 = true := by decide +kernel
set_option maxRecDepth 100000 in
theorem okb_133_9 : okBk 133 9 = true := by decide +kernel
set_option maxRecDepth 100000 in
theorem okb_133_10 : okBk 133 10 = true := by decide +kernel
set_option maxRecDepth 100000 in
theorem okb_133_11 : okBk 133 11 = true := by decide +kernel
theorem ok_133 : ∀ k, okBk 133 k = true := fun k => match k with
  | 0 => okb_133_0
  | 1 => okb_133_1
  | 2 => okb_133_2
  | 3 => okb_133_3
  | 4 => okb_133_4
  | 5 => okb_133_5
  | 6 => okb_133_6
  | 7 => okb_133_7
  | 8 => okb_133_8
  | 9 => okb_133_9
  | 10 => okb_133_10
  | 11 => okb_133_11
  | k + 12 => rfl
set_option maxRecDepth 100000 in
theorem cw_133 : twAt 7213 = some (.code ⟨"QuillBoats$Grammar", "readsLine", "()Z"⟩ prog_5_method_8_code 1 (some .boolean)) := rfl
set_option maxRecDepth 100000 in
theorem okb_134_0 : okBk 134 0 = true := by decide +kernel
set_option maxRecDepth 100000 in
theorem okb_134_1 : okBk 134 1 = true := by decide +kernel
theorem ok_134 : ∀ k, okBk 134 k = true := fun k => match k with
  | 0 => okb_134_0
  | 1 => okb_134_1
  | k + 2 => rfl
set_option maxRecDepth 100000 in
theorem cw_134 : twAt 7221 = some (.code ⟨"QuillBoats$Grammar", "reads", "(I)Z"⟩ prog_5_method_4_code 2 (some .boolean)) := rfl
set_option maxRecDepth 100000 in
theorem okb_135_0 : okBk 135 0 = true := by decide +kernel
theorem ok_135 : ∀ k, okBk 135 k = true := fun k => match k with
  | 0 => okb_135_0
  | k + 1 => rfl
set_option maxRecDepth 100000 in
theorem cw_135 : twAt 8051 = some (.code ⟨"QuillBoats$Roll", "clear", "()V"⟩ prog_11_method_2_code 1 none) := rfl
set_option maxRecDepth 100000 in
theorem okb_136_0 : okBk 136 0 = true := by decide +kernel
set_option maxRecDepth 100000 in
theorem okb_136_1 : okBk 136 1 = true := by decide +kernel
set_option maxRecDepth 100000 in
theorem okb_136_2 : okBk 136 2 = true := by decide +kernel
set_option maxRecDepth 100000 in
theorem okb_136_3 : okBk 136 3 = true := by decide +kernel
set_option maxRecDepth 100000 in
theorem okb_136_4 : okBk 136 4 = true := by decide +kernel
set_option maxRecDepth 100000 in
theorem okb_136_5 : okBk 136 5 = true := by decide +kernel
theorem ok_136 : ∀ k, okBk 136 k = true := fun k => match k with
  | 0 => okb_136_0
  | 1 => okb_136_1
  | 2 => okb_136_2
  | 3 => okb_136_3
  | 4 => okb_136_4
  | 5 => okb_136_5
  | k + 6 => rfl
set_option maxRecDepth 100000 in
theorem cw_136 : twAt 8056 = some (.code ⟨"QuillBoats$Names", "lookAt", "(I)I"⟩ prog_6_method_4_code 2 (some .int)) := rfl
set_option maxRecDepth 100000 in
theorem okb_137_0 : okBk 137 0 = true := by decide +kernel
set_option maxRecDepth 100000 in
theorem okb_137_1 : okBk 137 1 = true := by decide +kernel
theorem ok_137 : ∀ k, okBk 137 k = true := fun k => match k with
  | 0 => okb_137_0
  | 1 => okb_137_1
  | k + 2 => rfl
set_option maxRecDepth 100000 in
theorem cw_137 : twAt 8158 = some (.code ⟨"QuillBoats$Orders", "resolve", "(LQuillBoats$Tokens;)V"⟩ prog_7_method_4_code 3 none) := rfl
set_option maxRecDepth 100000 in
theorem okb_138_0 : okBk 138 0 = true := by decide +kernel
set_option maxRecDepth 100000 in
theorem okb_138_1 : okBk 138 1 = true := by decide +kernel
set_option maxRecDepth 100000 in
theorem okb_138_2 : okBk 138 2 = true := by decide +kernel
theorem ok_138 : ∀ k, okBk 138 k = true := fun k => match k with
  | 0 => okb_138_0
  | 1 => okb_138_1
  | 2 => okb_138_2
  | k + 3 => rfl
set_option maxRecDepth 100000 in
theorem cw_138 : twAt 8163 = some (.code ⟨"QuillBoats$Orders", "copyFrom", "(LQuillBoats$Orders;)V"⟩ prog_7_method_5_code 3 none) := rfl
set_option maxRecDepth 100000 in
theorem okb_139_0 : okBk 139 0 = true := by decide +kernel
theorem ok_139 : ∀ k, okBk 139 k = true := fun k => match k with
  | 0 => okb_139_0
  | k + 1 => rfl
set_option maxRecDepth 100000 in
theorem cw_139 : twAt 5181 = some (.code ⟨"QuillBoats$Garden", "copyFrom", "(LQuillBoats$Garden;)V"⟩ prog_3_method_2_code 2 none) := rfl
set_option maxRecDepth 100000 in
theorem okb_140_0 : okBk 140 0 = true := by decide +kernel
set_option maxRecDepth 100000 in
theorem okb_140_1 : okBk 140 1 = true := by decide +kernel
set_option maxRecDepth 100000 in
theorem okb_140_2 : okBk 140 2 = true := by decide +kernel
theorem ok_140 : ∀ k, okBk 140 k = true := fun k => match k with
  | 0 => okb_140_0
  | 1 => okb_140_1
  | 2 => okb_140_2
  | k + 3 => rfl
set_option maxRecDepth 100000 in
theorem cw_140 : twAt 5185 = some (.code ⟨"QuillBoats$Rack", "copyFrom", "(LQuillBoats$Rack;)V"⟩ prog_9_method_3_code 3 none) := rfl
set_option maxRecDepth 100000 in
theorem okb_141_0 : okBk 141 0 = true := by decide +kernel
set_option maxRecDepth 100000 in
theorem okb_141_1 : okBk 141 1 = true := by decide +kernel
theorem ok_141 : ∀ k, okBk 141 k = true := fun k => match k with
  | 0 => okb_141_0
  | 1 => okb_141_1
  | k + 2 => rfl
set_option maxRecDepth 100000 in
theorem cw_141 : twAt 5189 = some (.code ⟨"QuillBoats$Peeler", "copyFrom", "(LQuillBoats$Peeler;)V"⟩ prog_8_method_3_code 2 none) := rfl
set_option maxRecDepth 100000 in
theorem okb_142_0 : okBk 142 0 = true := by decide +kernel
set_option maxRecDepth 100000 in
theorem okb_142_1 : okBk 142 1 = true := by decide +kernel
theorem ok_142 : ∀ k, okBk 142 k = true := fun k => match k with
  | 0 => okb_142_0
  | 1 => okb_142_1
  | k + 2 => rfl
set_option maxRecDepth 100000 in
theorem cw_142 : twAt 5194 = some (.code ⟨"QuillBoats$Grade", "copyFrom", "(LQuillBoats$Grade;)V"⟩ prog_4_method_3_code 2 none) := rfl
set_option maxRecDepth 100000 in
theorem okb_143_0 : okBk 143 0 = true := by decide +kernel
set_option maxRecDepth 100000 in
theorem okb_143_1 : okBk 143 1 = true := by decide +kernel
theorem ok_143 : ∀ k, okBk 143 k = true := fun k => match k with
  | 0 => okb_143_0
  | 1 => okb_143_1
  | k + 2 => rfl
set_option maxRecDepth 100000 in
theorem cw_143 : twAt 5047 = some (.code ⟨"QuillBoats$Orders", "carryOut", "(LQuillBoats$River;)V"⟩ prog_7_method_6_code 3 none) := rfl
set_option maxRecDepth 100000 in
theorem okb_144_0 : okBk 144 0 = true := by decide +kernel
theorem ok_144 : ∀ k, okBk 144 k = true := fun k => match k with
  | 0 => okb_144_0
  | k + 1 => rfl
set_option maxRecDepth 100000 in
theorem cw_144 : twAt 5102 = some (.code ⟨"QuillBoats$River", "hourOfDay", "()I"⟩ prog_10_method_17_code 1 (some .int)) := rfl
set_option maxRecDepth 100000 in
theorem okb_145_0 : okBk 145 0 = true := by decide +kernel
set_option maxRecDepth 100000 in
theorem okb_145_1 : okBk 145 1 = true := by decide +kernel
theorem ok_145 : ∀ k, okBk 145 k = true := fun k => match k with
  | 0 => okb_145_0
  | 1 => okb_145_1
  | k + 2 => rfl
set_option maxRecDepth 100000 in
theorem cw_145 : twAt 5111 = some (.code ⟨"QuillBoats$River", "growSticks", "()V"⟩ prog_10_method_35_code 2 none) := rfl
set_option maxRecDepth 100000 in
theorem okb_146_0 : okBk 146 0 = true := by decide +kernel
set_option maxRecDepth 100000 in
theorem okb_146_1 : okBk 146 1 = true := by decide +kernel
set_option maxRecDepth 100000 in
theorem okb_146_2 : okBk 146 2 = true := by decide +kernel
set_option maxRecDepth 100000 in
theorem okb_146_3 : okBk 146 3 = true := by decide +kernel
set_option maxRecDepth 100000 in
theorem okb_146_4 : okBk 146 4 = true := by decide +kernel
theorem ok_146 : ∀ k, okBk 146 k = true := fun k => match k with
  | 0 => okb_146_0
  | 1 => okb_146_1
  | 2 => okb_146_2
  | 3 => okb_146_3
  | 4 => okb_146_4
  | k + 5 => rfl
set_option maxRecDepth 100000 in
theorem cw_146 : twAt 5115 = some (.code ⟨"QuillBoats$River", "letPeel", "(LQuillBoats$Peeler;)V"⟩ prog_10_method_36_code 5 none) := rfl
set_option maxRecDepth 100000 in
theorem okb_147_0 : okBk 147 0 = true := by decide +kernel
set_option maxRecDepth 100000 in
theorem okb_147_1 : okBk 147 1 = true := by decide +kernel
set_option maxRecDepth 100000 in
theorem okb_147_2 : okBk 147 2 = true := by decide +kernel
set_option maxRecDepth 100000 in
theorem okb_147_3 : okBk 147 3 = true := by decide +kernel
theorem ok_147 : ∀ k, okBk 147 k = true := fun k => match k with
  | 0 => okb_147_0
  | 1 => okb_147_1
  | 2 => okb_147_2
  | 3 => okb_147_3
  | k + 4 => rfl
set_option maxRecDepth 100000 in
theorem cw_147 : twAt 5127 = some (.code ⟨"QuillBoats$Rack", "letDry", "(I[LQuillBoats$Grade;)V"⟩ prog_9_method_11_code 5 none) := rfl
set_option maxRecDepth 100000 in
theorem okb_148_0 : okBk 148 0 = true := by decide +kernel
set_option maxRecDepth 100000 in
theorem okb_148_1 : okBk 148 1 = true := by decide +kernel
set_option maxRecDepth 100000 in
theorem okb_148_2 : okBk 148 2 = true := by decide +kernel
set_option maxRecDepth 100000 in
theorem okb_148_3 : okBk 148 3 = true := by decide +kernel
theorem ok_148 : ∀ k, okBk 148 k = true := fun k => match k with
  | 0 => okb_148_0
  | 1 => okb_148_1
  | 2 => okb_148_2
  | 3 => okb_148_3
  | k + 4 => rfl
set_option maxRecDepth 100000 in
theorem cw_148 : twAt 5146 = some (.code ⟨"QuillBoats$River", "sellQuills", "(LQuillBoats$Boat;)V"⟩ prog_10_method_37_code 4 none) := rfl
set_option maxRecDepth 100000 in
theorem okb_149_0 : okBk 149 0 = true := by decide +kernel
set_option maxRecDepth 100000 in
theorem okb_149_1 : okBk 149 1 = true := by decide +kernel
theorem ok_149 : ∀ k, okBk 149 k = true := fun k => match k with
  | 0 => okb_149_0
  | 1 => okb_149_1
  | k + 2 => rfl
set_option maxRecDepth 100000 in
theorem cw_149 : twAt 5151 = some (.code ⟨"QuillBoats$River", "endHour", "()V"⟩ prog_10_method_38_code 2 none) := rfl
set_option maxRecDepth 100000 in
theorem okb_150_0 : okBk 150 0 = true := by decide +kernel
theorem ok_150 : ∀ k, okBk 150 k = true := fun k => match k with
  | 0 => okb_150_0
  | k + 1 => rfl
set_option maxRecDepth 100000 in
theorem cw_150 : twAt 4110 = some (.code ⟨"QuillBoats$Rack", "lyingQuills", "()I"⟩ prog_9_method_5_code 1 (some .int)) := rfl
set_option maxRecDepth 100000 in
theorem okb_151_0 : okBk 151 0 = true := by decide +kernel
theorem ok_151 : ∀ k, okBk 151 k = true := fun k => match k with
  | 0 => okb_151_0
  | k + 1 => rfl
set_option maxRecDepth 100000 in
theorem cw_151 : twAt 3139 = some (.code ⟨"QuillBoats$Tokens", "joined", "(JI)J"⟩ prog_12_method_2_code 3 (some .long)) := rfl
set_option maxRecDepth 100000 in
theorem okb_152_0 : okBk 152 0 = true := by decide +kernel
set_option maxRecDepth 100000 in
theorem okb_152_1 : okBk 152 1 = true := by decide +kernel
theorem ok_152 : ∀ k, okBk 152 k = true := fun k => match k with
  | 0 => okb_152_0
  | 1 => okb_152_1
  | k + 2 => rfl
set_option maxRecDepth 100000 in
theorem cw_152 : twAt 6072 = some (.code ⟨"java/lang/AbstractStringBuilder", "newCapacity", "(I)I"⟩ prog_18_method_10_code 6 (some .int)) := rfl
set_option maxRecDepth 100000 in
theorem okb_153_0 : okBk 153 0 = true := by decide +kernel
set_option maxRecDepth 100000 in
theorem okb_153_1 : okBk 153 1 = true := by decide +kernel
theorem ok_153 : ∀ k, okBk 153 k = true := fun k => match k with
  | 0 => okb_153_0
  | 1 => okb_153_1
  | k + 2 => rfl
set_option maxRecDepth 100000 in
theorem cw_153 : twAt 6084 = some (.code ⟨"java/util/Arrays", "copyOf", "([BI)[B"⟩ prog_34_method_121_code 3 (some (.array .byte))) := rfl
set_option maxRecDepth 100000 in
theorem okb_154_0 : okBk 154 0 = true := by decide +kernel
theorem ok_154 : ∀ k, okBk 154 k = true := fun k => match k with
  | 0 => okb_154_0
  | k + 1 => rfl
set_option maxRecDepth 100000 in
theorem cw_154 : twAt 6124 = some (.code ⟨"java/lang/AbstractStringBuilder", "inflateIfNeededFor", "(Ljava/lang/String;)V"⟩ prog_18_method_71_code 2 none) := rfl
set_option maxRecDepth 100000 in
theorem okb_155_0 : okBk 155 0 = true := by decide +kernel
set_option maxRecDepth 100000 in
theorem okb_155_1 : okBk 155 1 = true := by decide +kernel
theorem ok_155 : ∀ k, okBk 155 k = true := fun k => match k with
  | 0 => okb_155_0
  | 1 => okb_155_1
  | k + 2 => rfl
set_option maxRecDepth 100000 in
theorem cw_155 : twAt 6148 = some (.code ⟨"java/lang/String", "getBytes", "([BIB)V"⟩ prog_28_method_147_code 4 none) := rfl
set_option maxRecDepth 100000 in
theorem okb_156_0 : okBk 156 0 = true := by decide +kernel
theorem ok_156 : ∀ k, okBk 156 k = true := fun k => match k with
  | 0 => okb_156_0
  | k + 1 => rfl
set_option maxRecDepth 100000 in
theorem cw_156 : twAt 6233 = some (.code ⟨"java/lang/AbstractStringBuilder", "getValue", "()[B"⟩ prog_18_method_64_code 1 (some (.array .byte))) := rfl
set_option maxRecDepth 100000 in
theorem okb_157_0 : okBk 157 0 = true := by decide +kernel
theorem ok_157 : ∀ k, okBk 157 k = true := fun k => match k with
  | 0 => okb_157_0
  | k + 1 => rfl
set_option maxRecDepth 100000 in
theorem cw_157 : twAt 7001 = some (.code ⟨"java/lang/AbstractStringBuilder", "length", "()I"⟩ prog_18_method_6_code 1 (some .int)) := rfl
set_option maxRecDepth 100000 in
theorem okb_158_0 : okBk 158 0 = true := by decide +kernel
theorem ok_158 : ∀ k, okBk 158 k = true := fun k => match k with
  | 0 => okb_158_0
  | k + 1 => rfl
set_option maxRecDepth 100000 in
theorem cw_158 : twAt 7005 = some (.code ⟨"java/util/Arrays", "copyOfRange", "([BII)[B"⟩ prog_34_method_132_code 3 (some (.array .byte))) := rfl
set_option maxRecDepth 100000 in
theorem okb_159_0 : okBk 159 0 = true := by decide +kernel
theorem ok_159 : ∀ k, okBk 159 k = true := fun k => match k with
  | 0 => okb_159_0
  | k + 1 => rfl
set_option maxRecDepth 100000 in
theorem cw_159 : twAt 3117 = some (.code ⟨"jdk/internal/util/Preconditions", "checkIndex", "(IILjava/util/function/BiFunction;)I"⟩ prog_36_method_11_code 3 (some .int)) := rfl
set_option maxRecDepth 100000 in
theorem okb_160_0 : okBk 160 0 = true := by decide +kernel
theorem ok_160 : ∀ k, okBk 160 k = true := fun k => match k with
  | 0 => okb_160_0
  | k + 1 => rfl
set_option maxRecDepth 100000 in
theorem cw_160 : twAt 7123 = some (.code ⟨"QuillBoats$Tokens", "signAt", "([BII)I"⟩ prog_12_method_9_code 3 (some .int)) := rfl
set_option maxRecDepth 100000 in
theorem okb_161_0 : okBk 161 0 = true := by decide +kernel
theorem ok_161 : ∀ k, okBk 161 k = true := fun k => match k with
  | 0 => okb_161_0
  | k + 1 => rfl
set_option maxRecDepth 100000 in
theorem cw_161 : twAt 7127 = some (.code ⟨"QuillBoats$Tokens", "put", "(II)V"⟩ prog_12_method_13_code 3 none) := rfl
set_option maxRecDepth 100000 in
theorem okb_162_0 : okBk 162 0 = true := by decide +kernel
theorem ok_162 : ∀ k, okBk 162 k = true := fun k => match k with
  | 0 => okb_162_0
  | k + 1 => rfl
set_option maxRecDepth 100000 in
theorem cw_162 : twAt 7130 = some (.code ⟨"QuillBoats$Tokens", "isLetter", "(I)Z"⟩ prog_12_method_4_code 1 (some .boolean)) := rfl
set_option maxRecDepth 100000 in
theorem okb_163_0 : okBk 163 0 = true := by decide +kernel
set_option maxRecDepth 100000 in
theorem okb_163_1 : okBk 163 1 = true := by decide +kernel
set_option maxRecDepth 100000 in
theorem okb_163_2 : okBk 163 2 = true := by decide +kernel
set_option maxRecDepth 100000 in
theorem okb_163_3 : okBk 163 3 = true := by decide +kernel
theorem ok_163 : ∀ k, okBk 163 k = true := fun k => match k with
  | 0 => okb_163_0
  | 1 => okb_163_1
  | 2 => okb_163_2
  | 3 => okb_163_3
  | k + 4 => rfl
set_option maxRecDepth 100000 in
theorem cw_163 : twAt 7134 = some (.code ⟨"QuillBoats$Tokens", "behindWord", "([BIII)I"⟩ prog_12_method_10_code 9 (some .int)) := rfl
set_option maxRecDepth 100000 in
theorem okb_164_0 : okBk 164 0 = true := by decide +kernel
theorem ok_164 : ∀ k, okBk 164 k = true := fun k => match k with
  | 0 => okb_164_0
  | k + 1 => rfl
set_option maxRecDepth 100000 in
theorem cw_164 : twAt 3142 = some (.code ⟨"QuillBoats$Tokens", "isDigit", "(I)Z"⟩ prog_12_method_3_code 1 (some .boolean)) := rfl
set_option maxRecDepth 100000 in
theorem okb_165_0 : okBk 165 0 = true := by decide +kernel
set_option maxRecDepth 100000 in
theorem okb_165_1 : okBk 165 1 = true := by decide +kernel
set_option maxRecDepth 100000 in
theorem okb_165_2 : okBk 165 2 = true := by decide +kernel
theorem ok_165 : ∀ k, okBk 165 k = true := fun k => match k with
  | 0 => okb_165_0
  | 1 => okb_165_1
  | 2 => okb_165_2
  | k + 3 => rfl
set_option maxRecDepth 100000 in
theorem cw_165 : twAt 7142 = some (.code ⟨"QuillBoats$Tokens", "behindNumber", "([BIII)I"⟩ prog_12_method_12_code 8 (some .int)) := rfl
set_option maxRecDepth 100000 in
theorem okb_166_0 : okBk 166 0 = true := by decide +kernel
theorem ok_166 : ∀ k, okBk 166 k = true := fun k => match k with
  | 0 => okb_166_0
  | k + 1 => rfl
set_option maxRecDepth 100000 in
theorem cw_166 : twAt 7151 = some (.code ⟨"java/lang/String", "indexOf", "(I)I"⟩ prog_28_method_79_code 2 (some .int)) := rfl
set_option maxRecDepth 100000 in
theorem okb_167_0 : okBk 167 0 = true := by decide +kernel
theorem ok_167 : ∀ k, okBk 167 k = true := fun k => match k with
  | 0 => okb_167_0
  | k + 1 => rfl
set_option maxRecDepth 100000 in
theorem cw_167 : twAt 7217 = some (.code ⟨"QuillBoats$Grammar", "readsNameOf", "(I)Z"⟩ prog_5_method_7_code 2 (some .boolean)) := rfl
set_option maxRecDepth 100000 in
theorem okb_168_0 : okBk 168 0 = true := by decide +kernel
theorem ok_168 : ∀ k, okBk 168 k = true := fun k => match k with
  | 0 => okb_168_0
  | k + 1 => rfl
set_option maxRecDepth 100000 in
theorem cw_168 : twAt 7225 = some (.code ⟨"QuillBoats$Grammar", "readsNumberOf", "(I)Z"⟩ prog_5_method_6_code 2 (some .boolean)) := rfl
set_option maxRecDepth 100000 in
theorem okb_169_0 : okBk 169 0 = true := by decide +kernel
theorem ok_169 : ∀ k, okBk 169 k = true := fun k => match k with
  | 0 => okb_169_0
  | k + 1 => rfl
set_option maxRecDepth 100000 in
theorem cw_169 : twAt 7228 = some (.code ⟨"QuillBoats$Grammar", "isGrade", "(I)Z"⟩ prog_5_method_5_code 1 (some .boolean)) := rfl
set_option maxRecDepth 100000 in
theorem okb_170_0 : okBk 170 0 = true := by decide +kernel
set_option maxRecDepth 100000 in
theorem okb_170_1 : okBk 170 1 = true := by decide +kernel
theorem ok_170 : ∀ k, okBk 170 k = true := fun k => match k with
  | 0 => okb_170_0
  | 1 => okb_170_1
  | k + 2 => rfl
set_option maxRecDepth 100000 in
theorem cw_170 : twAt 7232 = some (.code ⟨"QuillBoats$Grammar", "readsOrderWithTest", "(I)Z"⟩ prog_5_method_9_code 3 (some .boolean)) := rfl
set_option maxRecDepth 100000 in
theorem okb_171_0 : okBk 171 0 = true := by decide +kernel
set_option maxRecDepth 100000 in
theorem okb_171_1 : okBk 171 1 = true := by decide +kernel
set_option maxRecDepth 100000 in
theorem okb_171_2 : okBk 171 2 = true := by decide +kernel
set_option maxRecDepth 100000 in
theorem okb_171_3 : okBk 171 3 = true := by decide +kernel
theorem ok_171 : ∀ k, okBk 171 k = true := fun k => match k with
  | 0 => okb_171_0
  | 1 => okb_171_1
  | 2 => okb_171_2
  | 3 => okb_171_3
  | k + 4 => rfl
set_option maxRecDepth 100000 in
theorem cw_171 : twAt 8034 = some (.code ⟨"QuillBoats$Grammar", "readsLoading", "()Z"⟩ prog_5_method_10_code 2 (some .boolean)) := rfl
set_option maxRecDepth 100000 in
theorem okb_172_0 : okBk 172 0 = true := by decide +kernel
set_option maxRecDepth 100000 in
theorem okb_172_1 : okBk 172 1 = true := by decide +kernel
set_option maxRecDepth 100000 in
theorem okb_172_2 : okBk 172 2 = true := by decide +kernel
set_option maxRecDepth 100000 in
theorem okb_172_3 : okBk 172 3 = true := by decide +kernel
set_option maxRecDepth 100000 in
theorem okb_172_4 : okBk 172 4 = true := by decide +kernel
set_option maxRecDepth 100000 in
theorem okb_172_5 : okBk 172 5 = true := by decide +kernel
set_option maxRecDepth 100000 in
theorem okb_172_6 : okBk 172 6 = true := by decide +kernel
set_option maxRecDepth 100000 in
theorem okb_172_7 : okBk 172 7 = true := by decide +kernel
theorem ok_172 : ∀ k, okBk 172 k = true := fun k => match k with
  | 0 => okb_172_0
  | 1 => okb_172_1
  | 2 => okb_172_2
  | 3 => okb_172_3
  | 4 => okb_172_4
  | 5 => okb_172_5
  | 6 => okb_172_6
  | 7 => okb_172_7
  | k + 8 => rfl
set_option maxRecDepth 100000 in
theorem cw_172 : twAt 8060 = some (.code ⟨"QuillBoats$Names", "lookAtName", "(I)I"⟩ prog_6_method_5_code 2 (some .int)) := rfl
set_option maxRecDepth 100000 in
theorem okb_173_0 : okBk 173 0 = true := by decide +kernel
theorem ok_173 : ∀ k, okBk 173 k = true := fun k => match k with
  | 0 => okb_173_0
  | k + 1 => rfl
set_option maxRecDepth 100000 in
theorem cw_173 : twAt 8118 = some (.code ⟨"QuillBoats$Tokens", "numberOf", "(I)I"⟩ prog_12_method_16_code 2 (some .int)) := rfl
set_option maxRecDepth 100000 in
theorem okb_174_0 : okBk 174 0 = true := by decide +kernel
set_option maxRecDepth 100000 in
theorem okb_174_1 : okBk 174 1 = true := by decide +kernel
set_option maxRecDepth 100000 in
theorem okb_174_2 : okBk 174 2 = true := by decide +kernel
set_option maxRecDepth 100000 in
theorem okb_174_3 : okBk 174 3 = true := by decide +kernel
set_option maxRecDepth 100000 in
theorem okb_174_4 : okBk 174 4 = true := by decide +kernel
set_option maxRecDepth 100000 in
theorem okb_174_5 : okBk 174 5 = true := by decide +kernel
set_option maxRecDepth 100000 in
theorem okb_174_6 : okBk 174 6 = true := by decide +kernel
set_option maxRecDepth 100000 in
theorem okb_174_7 : okBk 174 7 = true := by decide +kernel
set_option maxRecDepth 100000 in
theorem okb_174_8 : okBk 174 8 = true := by decide +kernel
set_option maxRecDepth 100000 in
theorem okb_174_9 : okBk 174 9 = true := by decide +kernel
theorem ok_174 : ∀ k, okBk 174 k = true := fun k => match k with
  | 0 => okb_174_0
  | 1 => okb_174_1
  | 2 => okb_174_2
  | 3 => okb_174_3
  | 4 => okb_174_4
  | 5 => okb_174_5
  | 6 => okb_174_6
  | 7 => okb_174_7
  | 8 => okb_174_8
  | 9 => okb_174_9
  | k + 10 => rfl
set_option maxRecDepth 100000 in
theorem cw_174 : twAt 8126 = some (.code ⟨"QuillBoats$Names", "lookAtNumber", "(II)I"⟩ prog_6_method_10_code 3 (some .int)) := rfl
set_option maxRecDepth 100000 in
theorem okb_175_0 : okBk 175 0 = true := by decide +kernel
theorem ok_175 : ∀ k, okBk 175 k = true := fun k => match k with
  | 0 => okb_175_0
  | k + 1 => rfl
set_option maxRecDepth 100000 in
theorem cw_175 : twAt 7146 = some (.code ⟨"QuillBoats$Tokens", "setNumber", "(II)V"⟩ prog_12_method_17_code 3 none) := rfl
set_option maxRecDepth 100000 in
theorem okb_176_0 : okBk 176 0 = true := by decide +kernel
set_option maxRecDepth 100000 in
theorem okb_176_1 : okBk 176 1 = true := by decide +kernel
set_option maxRecDepth 100000 in
theorem okb_176_2 : okBk 176 2 = true := by decide +kernel
set_option maxRecDepth 100000 in
theorem okb_176_3 : okBk 176 3 = true := by decide +kernel
set_option maxRecDepth 100000 in
theorem okb_176_4 : okBk 176 4 = true := by decide +kernel
set_option maxRecDepth 100000 in
theorem okb_176_5 : okBk 176 5 = true := by decide +kernel
theorem ok_176 : ∀ k, okBk 176 k = true := fun k => match k with
  | 0 => okb_176_0
  | 1 => okb_176_1
  | 2 => okb_176_2
  | 3 => okb_176_3
  | 4 => okb_176_4
  | 5 => okb_176_5
  | k + 6 => rfl
set_option maxRecDepth 100000 in
theorem cw_176 : twAt 5051 = some (.code ⟨"QuillBoats$Orders", "take", "(IILQuillBoats$River;)V"⟩ prog_7_method_9_code 5 none) := rfl
set_option maxRecDepth 100000 in
theorem okb_177_0 : okBk 177 0 = true := by decide +kernel
set_option maxRecDepth 100000 in
theorem okb_177_1 : okBk 177 1 = true := by decide +kernel
theorem ok_177 : ∀ k, okBk 177 k = true := fun k => match k with
  | 0 => okb_177_0
  | 1 => okb_177_1
  | k + 2 => rfl
set_option maxRecDepth 100000 in
theorem cw_177 : twAt 5119 = some (.code ⟨"QuillBoats$Peeler", "mostInAnHour", "()I"⟩ prog_8_method_4_code 1 (some .int)) := rfl
set_option maxRecDepth 100000 in
theorem okb_178_0 : okBk 178 0 = true := by decide +kernel
set_option maxRecDepth 100000 in
theorem okb_178_1 : okBk 178 1 = true := by decide +kernel
set_option maxRecDepth 100000 in
theorem okb_178_2 : okBk 178 2 = true := by decide +kernel
theorem ok_178 : ∀ k, okBk 178 k = true := fun k => match k with
  | 0 => okb_178_0
  | 1 => okb_178_1
  | 2 => okb_178_2
  | k + 3 => rfl
set_option maxRecDepth 100000 in
theorem cw_178 : twAt 5123 = some (.code ⟨"QuillBoats$Rack", "lay", "(II)V"⟩ prog_9_method_7_code 3 none) := rfl
set_option maxRecDepth 100000 in
theorem okb_179_0 : okBk 179 0 = true := by decide +kernel
set_option maxRecDepth 100000 in
theorem okb_179_1 : okBk 179 1 = true := by decide +kernel
theorem ok_179 : ∀ k, okBk 179 k = true := fun k => match k with
  | 0 => okb_179_0
  | 1 => okb_179_1
  | k + 2 => rfl
set_option maxRecDepth 100000 in
theorem cw_179 : twAt 5132 = some (.code ⟨"QuillBoats$Rack", "storeAt", "(I[LQuillBoats$Grade;)V"⟩ prog_9_method_12_code 4 none) := rfl
set_option maxRecDepth 100000 in
theorem okb_180_0 : okBk 180 0 = true := by decide +kernel
set_option maxRecDepth 100000 in
theorem okb_180_1 : okBk 180 1 = true := by decide +kernel
theorem ok_180 : ∀ k, okBk 180 k = true := fun k => match k with
  | 0 => okb_180_0
  | 1 => okb_180_1
  | k + 2 => rfl
set_option maxRecDepth 100000 in
theorem cw_180 : twAt 5136 = some (.code ⟨"QuillBoats$Rack", "moveTo", "(II)V"⟩ prog_9_method_13_code 3 none) := rfl
set_option maxRecDepth 100000 in
theorem okb_181_0 : okBk 181 0 = true := by decide +kernel
theorem ok_181 : ∀ k, okBk 181 k = true := fun k => match k with
  | 0 => okb_181_0
  | k + 1 => rfl
set_option maxRecDepth 100000 in
theorem cw_181 : twAt 6075 = some (.code ⟨"jdk/internal/util/ArraysSupport", "newLength", "(III)I"⟩ prog_35_method_27_code 4 (some .int)) := rfl
set_option maxRecDepth 100000 in
theorem okb_182_0 : okBk 182 0 = true := by decide +kernel
theorem ok_182 : ∀ k, okBk 182 k = true := fun k => match k with
  | 0 => okb_182_0
  | k + 1 => rfl
set_option maxRecDepth 100000 in
theorem cw_182 : twAt 6132 = some (.code ⟨"java/lang/StringLatin1", "inflate", "([BI[BII)V"⟩ prog_30_method_50_code 5 none) := rfl
set_option maxRecDepth 100000 in
theorem okb_183_0 : okBk 183 0 = true := by decide +kernel
set_option maxRecDepth 100000 in
theorem okb_183_1 : okBk 183 1 = true := by decide +kernel
theorem ok_183 : ∀ k, okBk 183 k = true := fun k => match k with
  | 0 => okb_183_0
  | 1 => okb_183_1
  | k + 2 => rfl
set_option maxRecDepth 100000 in
theorem cw_183 : twAt 7008 = some (.code ⟨"java/util/Arrays", "copyOfRangeByte", "([BII)[B"⟩ prog_34_method_133_code 5 (some (.array .byte))) := rfl
set_option maxRecDepth 100000 in
theorem okb_184_0 : okBk 184 0 = true := by decide +kernel
set_option maxRecDepth 100000 in
theorem okb_184_1 : okBk 184 1 = true := by decide +kernel
theorem ok_184 : ∀ k, okBk 184 k = true := fun k => match k with
  | 0 => okb_184_0
  | 1 => okb_184_1
  | k + 2 => rfl
set_option maxRecDepth 100000 in
theorem cw_184 : twAt 7138 = some (.code ⟨"QuillBoats$Tokens", "kindOf", "(J)I"⟩ prog_12_method_11_code 4 (some .int)) := rfl
set_option maxRecDepth 100000 in
theorem okb_185_0 : okBk 185 0 = true := by decide +kernel
set_option maxRecDepth 100000 in
theorem okb_185_1 : okBk 185 1 = true := by decide +kernel
theorem ok_185 : ∀ k, okBk 185 k = true := fun k => match k with
  | 0 => okb_185_0
  | 1 => okb_185_1
  | k + 2 => rfl
set_option maxRecDepth 100000 in
theorem cw_185 : twAt 7155 = some (.code ⟨"java/lang/String", "indexOf", "(II)I"⟩ prog_28_method_80_code 3 (some .int)) := rfl
set_option maxRecDepth 100000 in
theorem okb_186_0 : okBk 186 0 = true := by decide +kernel
set_option maxRecDepth 100000 in
theorem okb_186_1 : okBk 186 1 = true := by decide +kernel
theorem ok_186 : ∀ k, okBk 186 k = true := fun k => match k with
  | 0 => okb_186_0
  | 1 => okb_186_1
  | k + 2 => rfl
set_option maxRecDepth 100000 in
theorem cw_186 : twAt 7236 = some (.code ⟨"QuillBoats$Grammar", "readsTest", "(I)Z"⟩ prog_5_method_11_code 3 (some .boolean)) := rfl
set_option maxRecDepth 100000 in
theorem okb_187_0 : okBk 187 0 = true := by decide +kernel
set_option maxRecDepth 100000 in
theorem okb_187_1 : okBk 187 1 = true := by decide +kernel
theorem ok_187 : ∀ k, okBk 187 k = true := fun k => match k with
  | 0 => okb_187_0
  | 1 => okb_187_1
  | k + 2 => rfl
set_option maxRecDepth 100000 in
theorem cw_187 : twAt 8011 = some (.code ⟨"QuillBoats$Orders", "add", "(II)V"⟩ prog_7_method_3_code 3 none) := rfl
set_option maxRecDepth 100000 in
theorem okb_188_0 : okBk 188 0 = true := by decide +kernel
set_option maxRecDepth 100000 in
theorem okb_188_1 : okBk 188 1 = true := by decide +kernel
set_option maxRecDepth 100000 in
theorem okb_188_2 : okBk 188 2 = true := by decide +kernel
theorem ok_188 : ∀ k, okBk 188 k = true := fun k => match k with
  | 0 => okb_188_0
  | 1 => okb_188_1
  | 2 => okb_188_2
  | k + 3 => rfl
set_option maxRecDepth 100000 in
theorem cw_188 : twAt 8015 = some (.code ⟨"QuillBoats$Grammar", "readsSum", "(I)Z"⟩ prog_5_method_16_code 4 (some .boolean)) := rfl
set_option maxRecDepth 100000 in
theorem okb_189_0 : okBk 189 0 = true := by decide +kernel
set_option maxRecDepth 100000 in
theorem okb_189_1 : okBk 189 1 = true := by decide +kernel
theorem ok_189 : ∀ k, okBk 189 k = true := fun k => match k with
  | 0 => okb_189_0
  | 1 => okb_189_1
  | k + 2 => rfl
set_option maxRecDepth 100000 in
theorem cw_189 : twAt 8064 = some (.code ⟨"QuillBoats$Names", "addName", "(LQuillBoats$Roll;I)I"⟩ prog_6_method_6_code 3 (some .int)) := rfl
set_option maxRecDepth 100000 in
theorem okb_190_0 : okBk 190 0 = true := by decide +kernel
theorem ok_190 : ∀ k, okBk 190 k = true := fun k => match k with
  | 0 => okb_190_0
  | k + 1 => rfl
set_option maxRecDepth 100000 in
theorem cw_190 : twAt 8108 = some (.code ⟨"QuillBoats$Names", "setGardenOfPeeler", "()I"⟩ prog_6_method_8_code 2 (some .int)) := rfl
set_option maxRecDepth 100000 in
theorem okb_191_0 : okBk 191 0 = true := by decide +kernel
theorem ok_191 : ∀ k, okBk 191 k = true := fun k => match k with
  | 0 => okb_191_0
  | k + 1 => rfl
set_option maxRecDepth 100000 in
theorem cw_191 : twAt 8122 = some (.code ⟨"QuillBoats$Names", "setRackOfPeeler", "()I"⟩ prog_6_method_9_code 2 (some .int)) := rfl
set_option maxRecDepth 100000 in
theorem okb_192_0 : okBk 192 0 = true := by decide +kernel
set_option maxRecDepth 100000 in
theorem okb_192_1 : okBk 192 1 = true := by decide +kernel
theorem ok_192 : ∀ k, okBk 192 k = true := fun k => match k with
  | 0 => okb_192_0
  | 1 => okb_192_1
  | k + 2 => rfl
set_option maxRecDepth 100000 in
theorem cw_192 : twAt 8112 = some (.code ⟨"QuillBoats$Names", "findName", "(LQuillBoats$Roll;)I"⟩ prog_6_method_7_code 3 (some .int)) := rfl
set_option maxRecDepth 100000 in
theorem okb_193_0 : okBk 193 0 = true := by decide +kernel
theorem ok_193 : ∀ k, okBk 193 k = true := fun k => match k with
  | 0 => okb_193_0
  | k + 1 => rfl
set_option maxRecDepth 100000 in
theorem cw_193 : twAt 8130 = some (.code ⟨"QuillBoats$River", "latestGarden", "()LQuillBoats$Garden;"⟩ prog_10_method_6_code 1 (some (.object "QuillBoats$Garden"))) := rfl
set_option maxRecDepth 100000 in
theorem okb_194_0 : okBk 194 0 = true := by decide +kernel
theorem ok_194 : ∀ k, okBk 194 k = true := fun k => match k with
  | 0 => okb_194_0
  | k + 1 => rfl
set_option maxRecDepth 100000 in
theorem cw_194 : twAt 8134 = some (.code ⟨"QuillBoats$Names", "errorOutside", "(II)I"⟩ prog_6_method_12_code 3 (some .int)) := rfl
set_option maxRecDepth 100000 in
theorem okb_195_0 : okBk 195 0 = true := by decide +kernel
set_option maxRecDepth 100000 in
theorem okb_195_1 : okBk 195 1 = true := by decide +kernel
theorem ok_195 : ∀ k, okBk 195 k = true := fun k => match k with
  | 0 => okb_195_0
  | 1 => okb_195_1
  | k + 2 => rfl
set_option maxRecDepth 100000 in
theorem cw_195 : twAt 8139 = some (.code ⟨"QuillBoats$Names", "setHolds", "(I)I"⟩ prog_6_method_11_code 2 (some .int)) := rfl
set_option maxRecDepth 100000 in
theorem okb_196_0 : okBk 196 0 = true := by decide +kernel
theorem ok_196 : ∀ k, okBk 196 k = true := fun k => match k with
  | 0 => okb_196_0
  | k + 1 => rfl
set_option maxRecDepth 100000 in
theorem cw_196 : twAt 8092 = some (.code ⟨"QuillBoats$River", "latestPeeler", "()LQuillBoats$Peeler;"⟩ prog_10_method_8_code 1 (some (.object "QuillBoats$Peeler"))) := rfl
set_option maxRecDepth 100000 in
theorem okb_197_0 : okBk 197 0 = true := by decide +kernel
theorem ok_197 : ∀ k, okBk 197 k = true := fun k => match k with
  | 0 => okb_197_0
  | k + 1 => rfl
set_option maxRecDepth 100000 in
theorem cw_197 : twAt 8100 = some (.code ⟨"QuillBoats$River", "latestBoat", "()LQuillBoats$Boat;"⟩ prog_10_method_9_code 1 (some (.object "QuillBoats$Boat"))) := rfl
set_option maxRecDepth 100000 in
theorem okb_198_0 : okBk 198 0 = true := by decide +kernel
theorem ok_198 : ∀ k, okBk 198 k = true := fun k => match k with
  | 0 => okb_198_0
  | k + 1 => rfl
set_option maxRecDepth 100000 in
theorem cw_198 : twAt 8145 = some (.code ⟨"QuillBoats$River", "setShadeOf", "(II)V"⟩ prog_10_method_10_code 3 none) := rfl
set_option maxRecDepth 100000 in
theorem okb_199_0 : okBk 199 0 = true := by decide +kernel
set_option maxRecDepth 100000 in
theorem okb_199_1 : okBk 199 1 = true := by decide +kernel
theorem ok_199 : ∀ k, okBk 199 k = true := fun k => match k with
  | 0 => okb_199_0
  | 1 => okb_199_1
  | k + 2 => rfl
set_option maxRecDepth 100000 in
theorem cw_199 : twAt 5055 = some (.code ⟨"QuillBoats$Orders", "whetByOrder", "(ILQuillBoats$River;)V"⟩ prog_7_method_10_code 4 none) := rfl
set_option maxRecDepth 100000 in
theorem okb_200_0 : okBk 200 0 = true := by decide +kernel
set_option maxRecDepth 100000 in
theorem okb_200_1 : okBk 200 1 = true := by decide +kernel
set_option maxRecDepth 100000 in
theorem okb_200_2 : okBk 200 2 = true := by decide +kernel
theorem ok_200 : ∀ k, okBk 200 k = true := fun k => match k with
  | 0 => okb_200_0
  | 1 => okb_200_1
  | 2 => okb_200_2
  | k + 3 => rfl
set_option maxRecDepth 100000 in
theorem cw_200 : twAt 5068 = some (.code ⟨"QuillBoats$Orders", "loadByOrder", "(ILQuillBoats$River;)V"⟩ prog_7_method_11_code 6 none) := rfl
set_option maxRecDepth 100000 in
theorem okb_201_0 : okBk 201 0 = true := by decide +kernel
set_option maxRecDepth 100000 in
theorem okb_201_1 : okBk 201 1 = true := by decide +kernel
theorem ok_201 : ∀ k, okBk 201 k = true := fun k => match k with
  | 0 => okb_201_0
  | 1 => okb_201_1
  | k + 2 => rfl
set_option maxRecDepth 100000 in
theorem cw_201 : twAt 5079 = some (.code ⟨"QuillBoats$Orders", "restByOrder", "(ILQuillBoats$River;)V"⟩ prog_7_method_12_code 4 none) := rfl
set_option maxRecDepth 100000 in
theorem okb_202_0 : okBk 202 0 = true := by decide +kernel
set_option maxRecDepth 100000 in
theorem okb_202_1 : okBk 202 1 = true := by decide +kernel
theorem ok_202 : ∀ k, okBk 202 k = true := fun k => match k with
  | 0 => okb_202_0
  | 1 => okb_202_1
  | k + 2 => rfl
set_option maxRecDepth 100000 in
theorem cw_202 : twAt 5083 = some (.code ⟨"QuillBoats$Orders", "push", "(I)V"⟩ prog_7_method_7_code 2 none) := rfl
set_option maxRecDepth 100000 in
theorem okb_203_0 : okBk 203 0 = true := by decide +kernel
set_option maxRecDepth 100000 in
theorem okb_203_1 : okBk 203 1 = true := by decide +kernel
theorem ok_203 : ∀ k, okBk 203 k = true := fun k => match k with
  | 0 => okb_203_0
  | 1 => okb_203_1
  | k + 2 => rfl
set_option maxRecDepth 100000 in
theorem cw_203 : twAt 5059 = some (.code ⟨"QuillBoats$Orders", "pop", "()I"⟩ prog_7_method_8_code 1 (some .int)) := rfl
set_option maxRecDepth 100000 in
theorem okb_204_0 : okBk 204 0 = true := by decide +kernel
theorem ok_204 : ∀ k, okBk 204 k = true := fun k => match k with
  | 0 => okb_204_0
  | k + 1 => rfl
set_option maxRecDepth 100000 in
theorem cw_204 : twAt 5086 = some (.code ⟨"QuillBoats$Orders", "joinsTwo", "(I)Z"⟩ prog_7_method_13_code 1 (some .boolean)) := rfl
set_option maxRecDepth 100000 in
theorem okb_205_0 : okBk 205 0 = true := by decide +kernel
set_option maxRecDepth 100000 in
theorem okb_205_1 : okBk 205 1 = true := by decide +kernel
set_option maxRecDepth 100000 in
theorem okb_205_2 : okBk 205 2 = true := by decide +kernel
set_option maxRecDepth 100000 in
theorem okb_205_3 : okBk 205 3 = true := by decide +kernel
theorem ok_205 : ∀ k, okBk 205 k = true := fun k => match k with
  | 0 => okb_205_0
  | 1 => okb_205_1
  | 2 => okb_205_2
  | 3 => okb_205_3
  | k + 4 => rfl
set_option maxRecDepth 100000 in
theorem cw_205 : twAt 5089 = some (.code ⟨"QuillBoats$Orders", "join", "(III)I"⟩ prog_7_method_14_code 3 (some .int)) := rfl
set_option maxRecDepth 100000 in
theorem okb_206_0 : okBk 206 0 = true := by decide +kernel
set_option maxRecDepth 100000 in
theorem okb_206_1 : okBk 206 1 = true := by decide +kernel
set_option maxRecDepth 100000 in
theorem okb_206_2 : okBk 206 2 = true := by decide +kernel
set_option maxRecDepth 100000 in
theorem okb_206_3 : okBk 206 3 = true := by decide +kernel
set_option maxRecDepth 100000 in
theorem okb_206_4 : okBk 206 4 = true := by decide +kernel
set_option maxRecDepth 100000 in
theorem okb_206_5 : okBk 206 5 = true := by decide +kernel
set_option maxRecDepth 100000 in
theorem okb_206_6 : okBk 206 6 = true := by decide +kernel
set_option maxRecDepth 100000 in
theorem okb_206_7 : okBk 206 7 = true := by decide +kernel
theorem ok_206 : ∀ k, okBk 206 k = true := fun k => match k with
  | 0 => okb_206_0
  | 1 => okb_206_1
  | 2 => okb_206_2
  | 3 => okb_206_3
  | 4 => okb_206_4
  | 5 => okb_206_5
  | 6 => okb_206_6
  | 7 => okb_206_7
  | k + 8 => rfl
set_option maxRecDepth 100000 in
theorem cw_206 : twAt 5098 = some (.code ⟨"QuillBoats$River", "told", "(II)I"⟩ prog_10_method_30_code 3 (some .int)) := rfl
set_option maxRecDepth 100000 in
theorem okb_207_0 : okBk 207 0 = true := by decide +kernel
set_option maxRecDepth 100000 in
theorem okb_207_1 : okBk 207 1 = true := by decide +kernel
theorem ok_207 : ∀ k, okBk 207 k = true := fun k => match k with
  | 0 => okb_207_0
  | 1 => okb_207_1
  | k + 2 => rfl
set_option maxRecDepth 100000 in
theorem cw_207 : twAt 7011 = some (.code ⟨"java/util/Arrays", "checkLength", "(II)V"⟩ prog_34_method_131_code 2 none) := rfl
set_option maxRecDepth 100000 in
theorem okb_208_0 : okBk 208 0 = true := by decide +kernel
set_option maxRecDepth 100000 in
theorem okb_208_1 : okBk 208 1 = true := by decide +kernel
theorem ok_208 : ∀ k, okBk 208 k = true := fun k => match k with
  | 0 => okb_208_0
  | 1 => okb_208_1
  | k + 2 => rfl
set_option maxRecDepth 100000 in
theorem cw_208 : twAt 7159 = some (.code ⟨"java/lang/StringLatin1", "indexOf", "([BIII)I"⟩ prog_30_method_22_code 4 (some .int)) := rfl
set_option maxRecDepth 100000 in
theorem okb_209_0 : okBk 209 0 = true := by decide +kernel
set_option maxRecDepth 100000 in
theorem okb_209_1 : okBk 209 1 = true := by decide +kernel
theorem ok_209 : ∀ k, okBk 209 k = true := fun k => match k with
  | 0 => okb_209_0
  | 1 => okb_209_1
  | k + 2 => rfl
set_option maxRecDepth 100000 in
theorem cw_209 : twAt 8000 = some (.code ⟨"QuillBoats$Grammar", "readsBoth", "(I)Z"⟩ prog_5_method_12_code 3 (some .boolean)) := rfl
set_option maxRecDepth 100000 in
theorem okb_210_0 : okBk 210 0 = true := by decide +kernel
set_option maxRecDepth 100000 in
theorem okb_210_1 : okBk 210 1 = true := by decide +kernel
set_option maxRecDepth 100000 in
theorem okb_210_2 : okBk 210 2 = true := by decide +kernel
theorem ok_210 : ∀ k, okBk 210 k = true := fun k => match k with
  | 0 => okb_210_0
  | 1 => okb_210_1
  | 2 => okb_210_2
  | k + 3 => rfl
set_option maxRecDepth 100000 in
theorem cw_210 : twAt 8019 = some (.code ⟨"QuillBoats$Grammar", "readsProduct", "(I)Z"⟩ prog_5_method_17_code 4 (some .boolean)) := rfl
set_option maxRecDepth 100000 in
theorem okb_211_0 : okBk 211 0 = true := by decide +kernel
theorem ok_211 : ∀ k, okBk 211 k = true := fun k => match k with
  | 0 => okb_211_0
  | k + 1 => rfl
set_option maxRecDepth 100000 in
theorem cw_211 : twAt 8068 = some (.code ⟨"QuillBoats$Tokens", "wordOf", "(I)J"⟩ prog_12_method_18_code 2 (some .long)) := rfl
set_option maxRecDepth 100000 in
theorem okb_212_0 : okBk 212 0 = true := by decide +kernel
set_option maxRecDepth 100000 in
theorem okb_212_1 : okBk 212 1 = true := by decide +kernel
theorem ok_212 : ∀ k, okBk 212 k = true := fun k => match k with
  | 0 => okb_212_0
  | 1 => okb_212_1
  | k + 2 => rfl
set_option maxRecDepth 100000 in
theorem cw_212 : twAt 8072 = some (.code ⟨"QuillBoats$Roll", "placeOf", "(J)I"⟩ prog_11_method_4_code 4 (some .int)) := rfl
set_option maxRecDepth 100000 in
theorem okb_213_0 : okBk 213 0 = true := by decide +kernel
set_option maxRecDepth 100000 in
theorem okb_213_1 : okBk 213 1 = true := by decide +kernel
theorem ok_213 : ∀ k, okBk 213 k = true := fun k => match k with
  | 0 => okb_213_0
  | 1 => okb_213_1
  | k + 2 => rfl
set_option maxRecDepth 100000 in
theorem cw_213 : twAt 8076 = some (.code ⟨"QuillBoats$Roll", "takes", "(J)Z"⟩ prog_11_method_3_code 3 (some .boolean)) := rfl
set_option maxRecDepth 100000 in
theorem okb_214_0 : okBk 214 0 = true := by decide +kernel
set_option maxRecDepth 100000 in
theorem okb_214_1 : okBk 214 1 = true := by decide +kernel
set_option maxRecDepth 100000 in
theorem okb_214_2 : okBk 214 2 = true := by decide +kernel
set_option maxRecDepth 100000 in
theorem okb_214_3 : okBk 214 3 = true := by decide +kernel
theorem ok_214 : ∀ k, okBk 214 k = true := fun k => match k with
  | 0 => okb_214_0
  | 1 => okb_214_1
  | 2 => okb_214_2
  | 3 => okb_214_3
  | k + 4 => rfl
set_option maxRecDepth 100000 in
theorem cw_214 : twAt 8080 = some (.code ⟨"QuillBoats$River", "addOne", "(I)V"⟩ prog_10_method_5_code 2 none) := rfl
set_option maxRecDepth 100000 in
theorem okb_215_0 : okBk 215 0 = true := by decide +kernel
theorem ok_215 : ∀ k, okBk 215 k = true := fun k => match k with
  | 0 => okb_215_0
  | k + 1 => rfl
set_option maxRecDepth 100000 in
theorem cw_215 : twAt 8084 = some (.code ⟨"QuillBoats$River", "latestRack", "()LQuillBoats$Rack;"⟩ prog_10_method_7_code 1 (some (.object "QuillBoats$Rack"))) := rfl
set_option maxRecDepth 100000 in
theorem okb_216_0 : okBk 216 0 = true := by decide +kernel
set_option maxRecDepth 100000 in
theorem okb_216_1 : okBk 216 1 = true := by decide +kernel
set_option maxRecDepth 100000 in
theorem okb_216_2 : okBk 216 2 = true := by decide +kernel
set_option maxRecDepth 100000 in
theorem okb_216_3 : okBk 216 3 = true := by decide +kernel
set_option maxRecDepth 100000 in
theorem okb_216_4 : okBk 216 4 = true := by decide +kernel
set_option maxRecDepth 100000 in
theorem okb_216_5 : okBk 216 5 = true := by decide +kernel
theorem ok_216 : ∀ k, okBk 216 k = true := fun k => match k with
  | 0 => okb_216_0
  | 1 => okb_216_1
  | 2 => okb_216_2
  | 3 => okb_216_3
  | 4 => okb_216_4
  | 5 => okb_216_5
  | k + 6 => rfl
set_option maxRecDepth 100000 in
theorem cw_216 : twAt 5094 = some (.code ⟨"QuillBoats$Orders", "holds", "(III)Z"⟩ prog_7_method_15_code 3 (some .boolean)) := rfl
set_option maxRecDepth 100000 in
theorem okb_217_0 : okBk 217 0 = true := by decide +kernel
theorem ok_217 : ∀ k, okBk 217 k = true := fun k => match k with
  | 0 => okb_217_0
  | k + 1 => rfl
set_option maxRecDepth 100000 in
theorem cw_217 : twAt 7162 = some (.code ⟨"java/lang/StringLatin1", "canEncode", "(I)Z"⟩ prog_30_method_4_code 1 (some .boolean)) := rfl
set_option maxRecDepth 100000 in
theorem okb_218_0 : okBk 218 0 = true := by decide +kernel
set_option maxRecDepth 100000 in
theorem okb_218_1 : okBk 218 1 = true := by decide +kernel
theorem ok_218 : ∀ k, okBk 218 k = true := fun k => match k with
  | 0 => okb_218_0
  | 1 => okb_218_1
  | k + 2 => rfl
set_option maxRecDepth 100000 in
theorem cw_218 : twAt 7167 = some (.code ⟨"java/lang/StringLatin1", "indexOfChar", "([BIII)I"⟩ prog_30_method_23_code 6 (some .int)) := rfl
set_option maxRecDepth 100000 in
theorem okb_219_0 : okBk 219 0 = true := by decide +kernel
set_option maxRecDepth 100000 in
theorem okb_219_1 : okBk 219 1 = true := by decide +kernel
set_option maxRecDepth 100000 in
theorem okb_219_2 : okBk 219 2 = true := by decide +kernel
set_option maxRecDepth 100000 in
theorem okb_219_3 : okBk 219 3 = true := by decide +kernel
set_option maxRecDepth 100000 in
theorem okb_219_4 : okBk 219 4 = true := by decide +kernel
set_option maxRecDepth 100000 in
theorem okb_219_5 : okBk 219 5 = true := by decide +kernel
set_option maxRecDepth 100000 in
theorem okb_219_6 : okBk 219 6 = true := by decide +kernel
set_option maxRecDepth 100000 in
theorem okb_219_7 : okBk 219 7 = true := by decide +kernel
theorem ok_219 : ∀ k, okBk 219 k = true := fun k => match k with
  | 0 => okb_219_0
  | 1 => okb_219_1
  | 2 => okb_219_2
  | 3 => okb_219_3
  | 4 => okb_219_4
  | 5 => okb_219_5
  | 6 => okb_219_6
  | 7 => okb_219_7
  | k + 8 => rfl
set_option maxRecDepth 100000 in
theorem cw_219 : twAt 8004 = some (.code ⟨"QuillBoats$Grammar", "readsSingle", "(I)Z"⟩ prog_5_method_13_code 3 (some .boolean)) := rfl
set_option maxRecDepth 100000 in
theorem okb_220_0 : okBk 220 0 = true := by decide +kernel
set_option maxRecDepth 100000 in
theorem okb_220_1 : okBk 220 1 = true := by decide +kernel
set_option maxRecDepth 100000 in
theorem okb_220_2 : okBk 220 2 = true := by decide +kernel
set_option maxRecDepth 100000 in
theorem okb_220_3 : okBk 220 3 = true := by decide +kernel
set_option maxRecDepth 100000 in
theorem okb_220_4 : okBk 220 4 = true := by decide +kernel
set_option maxRecDepth 100000 in
theorem okb_220_5 : okBk 220 5 = true := by decide +kernel
set_option maxRecDepth 100000 in
theorem okb_220_6 : okBk 220 6 = true := by decide +kernel
set_option maxRecDepth 100000 in
theorem okb_220_7 : okBk 220 7 = true := by decide +kernel
set_option maxRecDepth 100000 in
theorem okb_220_8 : okBk 220 8 = true := by decide +kernel
set_option maxRecDepth 100000 in
theorem okb_220_9 : okBk 220 9 = true := by decide +kernel
set_option maxRecDepth 100000 in
theorem okb_220_10 : okBk 220 10 = true := by decide +kernel
set_option maxRecDepth 100000 in
theorem okb_220_11 : okBk 220 11 = true := by decide +kernel
set_option maxRecDepth 100000 in
theorem okb_220_12 : okBk 220 12 = true := by decide +kernel
set_option maxRecDepth 100000 in
theorem okb_220_13 : okBk 220 13 = true := by decide +kernel
theorem ok_220 : ∀ k, okBk 220 k = true := fun k => match k with
  | 0 => okb_220_0
  | 1 => okb_220_1
  | 2 => okb_220_2
  | 3 => okb_220_3
  | 4 => okb_220_4
  | 5 => okb_220_5
  | 6 => okb_220_6
  | 7 => okb_220_7
  | 8 => okb_220_8
  | 9 => okb_220_9
  | 10 => okb_220_10
  | 11 => okb_220_11
  | 12 => okb_220_12
  | 13 => okb_220_13
  | k + 14 => rfl
set_option maxRecDepth 100000 in
theorem cw_220 : twAt 8023 = some (.code ⟨"QuillBoats$Grammar", "readsValue", "(I)Z"⟩ prog_5_method_18_code 3 (some .boolean)) := rfl
set_option maxRecDepth 100000 in
theorem okb_221_0 : okBk 221 0 = true := by decide +kernel
theorem ok_221 : ∀ k, okBk 221 k = true := fun k => match k with
  | 0 => okb_221_0
  | k + 1 => rfl
set_option maxRecDepth 100000 in
theorem cw_221 : twAt 8088 = some (.code ⟨"QuillBoats$Rack", "clear", "()V"⟩ prog_9_method_2_code 1 none) := rfl
set_option maxRecDepth 100000 in
theorem okb_222_0 : okBk 222 0 = true := by decide +kernel
theorem ok_222 : ∀ k, okBk 222 k = true := fun k => match k with
  | 0 => okb_222_0
  | k + 1 => rfl
set_option maxRecDepth 100000 in
theorem cw_222 : twAt 8096 = some (.code ⟨"QuillBoats$Peeler", "clear", "()V"⟩ prog_8_method_2_code 1 none) := rfl
set_option maxRecDepth 100000 in
theorem okb_223_0 : okBk 223 0 = true := by decide +kernel
theorem ok_223 : ∀ k, okBk 223 k = true := fun k => match k with
  | 0 => okb_223_0
  | k + 1 => rfl
set_option maxRecDepth 100000 in
theorem cw_223 : twAt 8104 = some (.code ⟨"QuillBoats$Boat", "clear", "()V"⟩ prog_2_method_2_code 1 none) := rfl
set_option maxRecDepth 100000 in
theorem okb_224_0 : okBk 224 0 = true := by decide +kernel
theorem ok_224 : ∀ k, okBk 224 k = true := fun k => match k with
  | 0 => okb_224_0
  | k + 1 => rfl
set_option maxRecDepth 100000 in
theorem cw_224 : twAt 8007 = some (.code ⟨"QuillBoats$Grammar", "mayGoDeeper", "(I)Z"⟩ prog_5_method_14_code 1 (some .boolean)) := rfl
set_option maxRecDepth 100000 in
theorem okb_225_0 : okBk 225 0 = true := by decide +kernel
set_option maxRecDepth 100000 in
theorem okb_225_1 : okBk 225 1 = true := by decide +kernel
theorem ok_225 : ∀ k, okBk 225 k = true := fun k => match k with
  | 0 => okb_225_0
  | 1 => okb_225_1
  | k + 2 => rfl
set_option maxRecDepth 100000 in
theorem cw_225 : twAt 8030 = some (.code ⟨"QuillBoats$Grammar", "isComparison", "(I)Z"⟩ prog_5_method_15_code 1 (some .boolean)) := rfl
set_option maxRecDepth 100000 in
theorem okb_226_0 : okBk 226 0 = true := by decide +kernel
set_option maxRecDepth 100000 in
theorem okb_226_1 : okBk 226 1 = true := by decide +kernel
set_option maxRecDepth 100000 in
theorem okb_226_2 : okBk 226 2 = true := by decide +kernel
theorem ok_226 : ∀ k, okBk 226 k = true := fun k => match k with
  | 0 => okb_226_0
  | 1 => okb_226_1
  | 2 => okb_226_2
  | k + 3 => rfl
set_option maxRecDepth 100000 in
theorem cw_226 : twAt 8027 = some (.code ⟨"QuillBoats$Grammar", "readsChoice", "(II)Z"⟩ prog_5_method_19_code 3 (some .boolean)) := rfl
set_option maxRecDepth 100000 in
theorem okb_227_0 : okBk 227 0 = true := by decide +kernel
theorem ok_227 : ∀ k, okBk 227 k = true := fun k => match k with
  | 0 => okb_227_0
  | k + 1 => rfl
set_option maxRecDepth 100000 in
theorem cw_227 : twAt 6239 = some (.code ⟨"java/lang/StringBuilder", "length", "()I"⟩ prog_29_method_93_code 1 (some .int)) := rfl
