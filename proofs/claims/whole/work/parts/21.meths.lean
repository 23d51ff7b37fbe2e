abbrev M_LV_init : mn_M := (⟨"LabelledVolume", "<init>", "()V"⟩, prog_1_method_1_code, 3, (Option.none : Option Jvm.ClassFile.FieldType), [])
theorem mw_LV_init : mn_W M_LV_init := Or.inl ⟨gw_122, rfl⟩
theorem pl_LV_init : plainFor M_LV_init.1 = true := by decide +kernel
theorem nh_LV_init : mn_nh M_LV_init.1 := ⟨by decide, by decide⟩
theorem pn_LV_init : (parseMethodDescriptor M_LV_init.1.desc).map (fun d => d.parameters.length) = some 0 := by decide +kernel
abbrev M_LV_create : mn_M := (⟨"LabelledVolume", "create", "(IIZ)I"⟩, prog_1_method_2_code, 7, (Option.some Jvm.ClassFile.FieldType.int), [])
theorem mw_LV_create : mn_W M_LV_create := Or.inl ⟨gw_575, rfl⟩
theorem pl_LV_create : plainFor M_LV_create.1 = true := by decide +kernel
theorem nh_LV_create : mn_nh M_LV_create.1 := ⟨by decide, by decide⟩
theorem pn_LV_create : (parseMethodDescriptor M_LV_create.1.desc).map (fun d => d.parameters.length) = some 3 := by decide +kernel
abbrev M_LV_open : mn_M := (⟨"LabelledVolume", "open", "(II)I"⟩, prog_1_method_3_code, 3, (Option.some Jvm.ClassFile.FieldType.int), [])
theorem mw_LV_open : mn_W M_LV_open := Or.inl ⟨gw_852, rfl⟩
theorem pl_LV_open : plainFor M_LV_open.1 = true := by decide +kernel
theorem nh_LV_open : mn_nh M_LV_open.1 := ⟨by decide, by decide⟩
theorem pn_LV_open : (parseMethodDescriptor M_LV_open.1.desc).map (fun d => d.parameters.length) = some 2 := by decide +kernel
abbrev M_LV_read : mn_M := (⟨"LabelledVolume", "read", "(II)I"⟩, prog_1_method_4_code, 5, (Option.some Jvm.ClassFile.FieldType.int), [])
theorem mw_LV_read : mn_W M_LV_read := Or.inl ⟨gw_867, rfl⟩
theorem pl_LV_read : plainFor M_LV_read.1 = true := by decide +kernel
theorem nh_LV_read : mn_nh M_LV_read.1 := ⟨by decide, by decide⟩
theorem pn_LV_read : (parseMethodDescriptor M_LV_read.1.desc).map (fun d => d.parameters.length) = some 2 := by decide +kernel
abbrev M_LV_write : mn_M := (⟨"LabelledVolume", "write", "(III)V"⟩, prog_1_method_5_code, 8, (Option.none : Option Jvm.ClassFile.FieldType), [])
theorem mw_LV_write : mn_W M_LV_write := Or.inl ⟨gw_905, rfl⟩
theorem pl_LV_write : plainFor M_LV_write.1 = true := by decide +kernel
theorem nh_LV_write : mn_nh M_LV_write.1 := ⟨by decide, by decide⟩
theorem pn_LV_write : (parseMethodDescriptor M_LV_write.1.desc).map (fun d => d.parameters.length) = some 3 := by decide +kernel
abbrev M_LV_shorten : mn_M := (⟨"LabelledVolume", "shorten", "(II)V"⟩, prog_1_method_6_code, 7, (Option.none : Option Jvm.ClassFile.FieldType), [])
theorem mw_LV_shorten : mn_W M_LV_shorten := Or.inl ⟨gw_920, rfl⟩
theorem pl_LV_shorten : plainFor M_LV_shorten.1 = true := by decide +kernel
theorem nh_LV_shorten : mn_nh M_LV_shorten.1 := ⟨by decide, by decide⟩
theorem pn_LV_shorten : (parseMethodDescriptor M_LV_shorten.1.desc).map (fun d => d.parameters.length) = some 2 := by decide +kernel
abbrev M_LV_remove : mn_M := (⟨"LabelledVolume", "remove", "(II)I"⟩, prog_1_method_7_code, 8, (Option.some Jvm.ClassFile.FieldType.int), [])
theorem mw_LV_remove : mn_W M_LV_remove := Or.inl ⟨gw_954, rfl⟩
theorem pl_LV_remove : plainFor M_LV_remove.1 = true := by decide +kernel
theorem nh_LV_remove : mn_nh M_LV_remove.1 := ⟨by decide, by decide⟩
theorem pn_LV_remove : (parseMethodDescriptor M_LV_remove.1.desc).map (fun d => d.parameters.length) = some 2 := by decide +kernel
abbrev M_LV_length : mn_M := (⟨"LabelledVolume", "length", "(I)I"⟩, prog_1_method_8_code, 3, (Option.some Jvm.ClassFile.FieldType.int), [])
theorem mw_LV_length : mn_W M_LV_length := Or.inl ⟨gw_967, rfl⟩
theorem pl_LV_length : plainFor M_LV_length.1 = true := by decide +kernel
theorem nh_LV_length : mn_nh M_LV_length.1 := ⟨by decide, by decide⟩
theorem pn_LV_length : (parseMethodDescriptor M_LV_length.1.desc).map (fun d => d.parameters.length) = some 1 := by decide +kernel
abbrev M_LV_entry : mn_M := (⟨"LabelledVolume", "entry", "(III)I"⟩, prog_1_method_9_code, 6, (Option.some Jvm.ClassFile.FieldType.int), [])
theorem mw_LV_entry : mn_W M_LV_entry := Or.inl ⟨gw_974, rfl⟩
theorem pl_LV_entry : plainFor M_LV_entry.1 = true := by decide +kernel
theorem nh_LV_entry : mn_nh M_LV_entry.1 := ⟨by decide, by decide⟩
theorem pn_LV_entry : (parseMethodDescriptor M_LV_entry.1.desc).map (fun d => d.parameters.length) = some 3 := by decide +kernel
abbrev M_LV_scavenge : mn_M := (⟨"LabelledVolume", "scavenge", "()I"⟩, prog_1_method_10_code, 1, (Option.some Jvm.ClassFile.FieldType.int), [])
theorem mw_LV_scavenge : mn_W M_LV_scavenge := Or.inl ⟨gw_309, rfl⟩
theorem pl_LV_scavenge : plainFor M_LV_scavenge.1 = true := by decide +kernel
theorem nh_LV_scavenge : mn_nh M_LV_scavenge.1 := ⟨by decide, by decide⟩
theorem pn_LV_scavenge : (parseMethodDescriptor M_LV_scavenge.1.desc).map (fun d => d.parameters.length) = some 0 := by decide +kernel
abbrev M_LV_charge : mn_M := (⟨"LabelledVolume", "charge", "(I)V"⟩, prog_1_method_11_code, 2, (Option.none : Option Jvm.ClassFile.FieldType), [])
theorem mw_LV_charge : mn_W M_LV_charge := Or.inl ⟨gw_986, rfl⟩
theorem pl_LV_charge : plainFor M_LV_charge.1 = true := by decide +kernel
theorem nh_LV_charge : mn_nh M_LV_charge.1 := ⟨by decide, by decide⟩
theorem pn_LV_charge : (parseMethodDescriptor M_LV_charge.1.desc).map (fun d => d.parameters.length) = some 1 := by decide +kernel
abbrev M_LV_spoil : mn_M := (⟨"LabelledVolume", "spoil", "(III)Z"⟩, prog_1_method_12_code, 4, (Option.some Jvm.ClassFile.FieldType.boolean), [])
theorem mw_LV_spoil : mn_W M_LV_spoil := Or.inl ⟨gw_502, rfl⟩
theorem pl_LV_spoil : plainFor M_LV_spoil.1 = true := by decide +kernel
theorem nh_LV_spoil : mn_nh M_LV_spoil.1 := ⟨by decide, by decide⟩
theorem pn_LV_spoil : (parseMethodDescriptor M_LV_spoil.1.desc).map (fun d => d.parameters.length) = some 3 := by decide +kernel
abbrev M_LV_scratch : mn_M := (⟨"LabelledVolume", "scratch", "(I)Z"⟩, prog_1_method_13_code, 2, (Option.some Jvm.ClassFile.FieldType.boolean), [])
theorem mw_LV_scratch : mn_W M_LV_scratch := Or.inl ⟨gw_508, rfl⟩
theorem pl_LV_scratch : plainFor M_LV_scratch.1 = true := by decide +kernel
theorem nh_LV_scratch : mn_nh M_LV_scratch.1 := ⟨by decide, by decide⟩
theorem pn_LV_scratch : (parseMethodDescriptor M_LV_scratch.1.desc).map (fun d => d.parameters.length) = some 1 := by decide +kernel
abbrev M_LV_ghost : mn_M := (⟨"LabelledVolume", "ghost", "(II)Z"⟩, prog_1_method_14_code, 3, (Option.some Jvm.ClassFile.FieldType.boolean), [])
theorem mw_LV_ghost : mn_W M_LV_ghost := Or.inl ⟨gw_521, rfl⟩
theorem pl_LV_ghost : plainFor M_LV_ghost.1 = true := by decide +kernel
theorem nh_LV_ghost : mn_nh M_LV_ghost.1 := ⟨by decide, by decide⟩
theorem pn_LV_ghost : (parseMethodDescriptor M_LV_ghost.1.desc).map (fun d => d.parameters.length) = some 2 := by decide +kernel
abbrev M_LV_label : mn_M := (⟨"LabelledVolume", "label", "(II)I"⟩, prog_1_method_15_code, 3, (Option.some Jvm.ClassFile.FieldType.int), [])
theorem mw_LV_label : mn_W M_LV_label := Or.inl ⟨gw_530, rfl⟩
theorem pl_LV_label : plainFor M_LV_label.1 = true := by decide +kernel
theorem nh_LV_label : mn_nh M_LV_label.1 := ⟨by decide, by decide⟩
theorem pn_LV_label : (parseMethodDescriptor M_LV_label.1.desc).map (fun d => d.parameters.length) = some 2 := by decide +kernel
abbrev M_LV_data : mn_M := (⟨"LabelledVolume", "data", "(II)I"⟩, prog_1_method_16_code, 3, (Option.some Jvm.ClassFile.FieldType.int), [])
theorem mw_LV_data : mn_W M_LV_data := Or.inl ⟨gw_535, rfl⟩
theorem pl_LV_data : plainFor M_LV_data.1 = true := by decide +kernel
theorem nh_LV_data : mn_nh M_LV_data.1 := ⟨by decide, by decide⟩
theorem pn_LV_data : (parseMethodDescriptor M_LV_data.1.desc).map (fun d => d.parameters.length) = some 2 := by decide +kernel
abbrev M_LV_state : mn_M := (⟨"LabelledVolume", "state", "(I)I"⟩, prog_1_method_17_code, 2, (Option.some Jvm.ClassFile.FieldType.int), [])
theorem mw_LV_state : mn_W M_LV_state := Or.inl ⟨gw_540, rfl⟩
theorem pl_LV_state : plainFor M_LV_state.1 = true := by decide +kernel
theorem nh_LV_state : mn_nh M_LV_state.1 := ⟨by decide, by decide⟩
theorem pn_LV_state : (parseMethodDescriptor M_LV_state.1.desc).map (fun d => d.parameters.length) = some 1 := by decide +kernel
abbrev M_LV_report : mn_M := (⟨"LabelledVolume", "report", "(I)I"⟩, prog_1_method_18_code, 2, (Option.some Jvm.ClassFile.FieldType.int), [])
theorem mw_LV_report : mn_W M_LV_report := Or.inl ⟨gw_564, rfl⟩
theorem pl_LV_report : plainFor M_LV_report.1 = true := by decide +kernel
theorem nh_LV_report : mn_nh M_LV_report.1 := ⟨by decide, by decide⟩
theorem pn_LV_report : (parseMethodDescriptor M_LV_report.1.desc).map (fun d => d.parameters.length) = some 1 := by decide +kernel
abbrev M_LV_requirePower : mn_M := (⟨"LabelledVolume", "requirePower", "()V"⟩, prog_1_method_19_code, 1, (Option.none : Option Jvm.ClassFile.FieldType), [])
theorem mw_LV_requirePower : mn_W M_LV_requirePower := Or.inl ⟨gw_579, rfl⟩
theorem pl_LV_requirePower : plainFor M_LV_requirePower.1 = true := by decide +kernel
theorem nh_LV_requirePower : mn_nh M_LV_requirePower.1 := ⟨by decide, by decide⟩
theorem pn_LV_requirePower : (parseMethodDescriptor M_LV_requirePower.1.desc).map (fun d => d.parameters.length) = some 0 := by decide +kernel
abbrev M_LV_requireLeader : mn_M := (⟨"LabelledVolume", "requireLeader", "(I)I"⟩, prog_1_method_20_code, 3, (Option.some Jvm.ClassFile.FieldType.int), [])
theorem mw_LV_requireLeader : mn_W M_LV_requireLeader := Or.inl ⟨gw_652, rfl⟩
theorem pl_LV_requireLeader : plainFor M_LV_requireLeader.1 = true := by decide +kernel
theorem nh_LV_requireLeader : mn_nh M_LV_requireLeader.1 := ⟨by decide, by decide⟩
theorem pn_LV_requireLeader : (parseMethodDescriptor M_LV_requireLeader.1.desc).map (fun d => d.parameters.length) = some 1 := by decide +kernel
abbrev M_LV_requireDirectory : mn_M := (⟨"LabelledVolume", "requireDirectory", "(I)I"⟩, prog_1_method_21_code, 3, (Option.some Jvm.ClassFile.FieldType.int), [])
theorem mw_LV_requireDirectory : mn_W M_LV_requireDirectory := Or.inl ⟨gw_648, rfl⟩
theorem pl_LV_requireDirectory : plainFor M_LV_requireDirectory.1 = true := by decide +kernel
theorem nh_LV_requireDirectory : mn_nh M_LV_requireDirectory.1 := ⟨by decide, by decide⟩
theorem pn_LV_requireDirectory : (parseMethodDescriptor M_LV_requireDirectory.1.desc).map (fun d => d.parameters.length) = some 1 := by decide +kernel
abbrev M_LV_requirePlainFile : mn_M := (⟨"LabelledVolume", "requirePlainFile", "(I)I"⟩, prog_1_method_22_code, 3, (Option.some Jvm.ClassFile.FieldType.int), [])
theorem mw_LV_requirePlainFile : mn_W M_LV_requirePlainFile := Or.inl ⟨gw_909, rfl⟩
theorem pl_LV_requirePlainFile : plainFor M_LV_requirePlainFile.1 = true := by decide +kernel
theorem nh_LV_requirePlainFile : mn_nh M_LV_requirePlainFile.1 := ⟨by decide, by decide⟩
theorem pn_LV_requirePlainFile : (parseMethodDescriptor M_LV_requirePlainFile.1.desc).map (fun d => d.parameters.length) = some 1 := by decide +kernel
abbrev M_LV_unbroken : mn_M := (⟨"LabelledVolume", "unbroken", "(I)I"⟩, prog_1_method_23_code, 1, (Option.some Jvm.ClassFile.FieldType.int), [])
theorem mw_LV_unbroken : mn_W M_LV_unbroken := Or.inl ⟨gw_714, rfl⟩
theorem pl_LV_unbroken : plainFor M_LV_unbroken.1 = true := by decide +kernel
theorem nh_LV_unbroken : mn_nh M_LV_unbroken.1 := ⟨by decide, by decide⟩
theorem pn_LV_unbroken : (parseMethodDescriptor M_LV_unbroken.1.desc).map (fun d => d.parameters.length) = some 1 := by decide +kernel
abbrev M_LV_leaderOfEntry : mn_M := (⟨"LabelledVolume", "leaderOfEntry", "(II)I"⟩, prog_1_method_24_code, 6, (Option.some Jvm.ClassFile.FieldType.int), [])
theorem mw_LV_leaderOfEntry : mn_W M_LV_leaderOfEntry := Or.inl ⟨gw_856, rfl⟩
theorem pl_LV_leaderOfEntry : plainFor M_LV_leaderOfEntry.1 = true := by decide +kernel
theorem nh_LV_leaderOfEntry : mn_nh M_LV_leaderOfEntry.1 := ⟨by decide, by decide⟩
theorem pn_LV_leaderOfEntry : (parseMethodDescriptor M_LV_leaderOfEntry.1.desc).map (fun d => d.parameters.length) = some 2 := by decide +kernel
abbrev M_LV_appendByte : mn_M := (⟨"LabelledVolume", "appendByte", "(III)V"⟩, prog_1_method_25_code, 6, (Option.none : Option Jvm.ClassFile.FieldType), [])
theorem mw_LV_appendByte : mn_W M_LV_appendByte := Or.inl ⟨gw_913, rfl⟩
theorem pl_LV_appendByte : plainFor M_LV_appendByte.1 = true := by decide +kernel
theorem nh_LV_appendByte : mn_nh M_LV_appendByte.1 := ⟨by decide, by decide⟩
theorem pn_LV_appendByte : (parseMethodDescriptor M_LV_appendByte.1.desc).map (fun d => d.parameters.length) = some 3 := by decide +kernel
abbrev M_LV_enterEntry : mn_M := (⟨"LabelledVolume", "enterEntry", "(II)V"⟩, prog_1_method_26_code, 5, (Option.none : Option Jvm.ClassFile.FieldType), [])
theorem mw_LV_enterEntry : mn_W M_LV_enterEntry := Or.inl ⟨gw_800, rfl⟩
theorem pl_LV_enterEntry : plainFor M_LV_enterEntry.1 = true := by decide +kernel
theorem nh_LV_enterEntry : mn_nh M_LV_enterEntry.1 := ⟨by decide, by decide⟩
theorem pn_LV_enterEntry : (parseMethodDescriptor M_LV_enterEntry.1.desc).map (fun d => d.parameters.length) = some 2 := by decide +kernel
abbrev M_LV_linkBehind : mn_M := (⟨"LabelledVolume", "linkBehind", "(III)V"⟩, prog_1_method_27_code, 4, (Option.none : Option Jvm.ClassFile.FieldType), [])
theorem mw_LV_linkBehind : mn_W M_LV_linkBehind := Or.inl ⟨gw_824, rfl⟩
theorem pl_LV_linkBehind : plainFor M_LV_linkBehind.1 = true := by decide +kernel
theorem nh_LV_linkBehind : mn_nh M_LV_linkBehind.1 := ⟨by decide, by decide⟩
theorem pn_LV_linkBehind : (parseMethodDescriptor M_LV_linkBehind.1.desc).map (fun d => d.parameters.length) = some 3 := by decide +kernel
abbrev M_LV_dropPages : mn_M := (⟨"LabelledVolume", "dropPages", "(IIII)V"⟩, prog_1_method_28_code, 7, (Option.none : Option Jvm.ClassFile.FieldType), [])
theorem mw_LV_dropPages : mn_W M_LV_dropPages := Or.inl ⟨gw_924, rfl⟩
theorem pl_LV_dropPages : plainFor M_LV_dropPages.1 = true := by decide +kernel
theorem nh_LV_dropPages : mn_nh M_LV_dropPages.1 := ⟨by decide, by decide⟩
theorem pn_LV_dropPages : (parseMethodDescriptor M_LV_dropPages.1.desc).map (fun d => d.parameters.length) = some 4 := by decide +kernel
abbrev M_LV_writeHint : mn_M := (⟨"LabelledVolume", "writeHint", "(III)V"⟩, prog_1_method_29_code, 4, (Option.none : Option Jvm.ClassFile.FieldType), [])
theorem mw_LV_writeHint : mn_W M_LV_writeHint := Or.inl ⟨gw_828, rfl⟩
theorem pl_LV_writeHint : plainFor M_LV_writeHint.1 = true := by decide +kernel
theorem nh_LV_writeHint : mn_nh M_LV_writeHint.1 := ⟨by decide, by decide⟩
theorem pn_LV_writeHint : (parseMethodDescriptor M_LV_writeHint.1.desc).map (fun d => d.parameters.length) = some 3 := by decide +kernel
abbrev M_LV_gatherPages : mn_M := (⟨"LabelledVolume", "gatherPages", "(II)I"⟩, prog_1_method_30_code, 6, (Option.some Jvm.ClassFile.FieldType.int), [])
theorem mw_LV_gatherPages : mn_W M_LV_gatherPages := Or.inl ⟨gw_928, rfl⟩
theorem pl_LV_gatherPages : plainFor M_LV_gatherPages.1 = true := by decide +kernel
theorem nh_LV_gatherPages : mn_nh M_LV_gatherPages.1 := ⟨by decide, by decide⟩
theorem pn_LV_gatherPages : (parseMethodDescriptor M_LV_gatherPages.1.desc).map (fun d => d.parameters.length) = some 2 := by decide +kernel
abbrev M_LV_gatheredPage : mn_M := (⟨"LabelledVolume", "gatheredPage", "(I)I"⟩, prog_1_method_31_code, 2, (Option.some Jvm.ClassFile.FieldType.int), [])
theorem mw_LV_gatheredPage : mn_W M_LV_gatheredPage := Or.inl ⟨gw_933, rfl⟩
theorem pl_LV_gatheredPage : plainFor M_LV_gatheredPage.1 = true := by decide +kernel
theorem nh_LV_gatheredPage : mn_nh M_LV_gatheredPage.1 := ⟨by decide, by decide⟩
theorem pn_LV_gatheredPage : (parseMethodDescriptor M_LV_gatheredPage.1.desc).map (fun d => d.parameters.length) = some 1 := by decide +kernel
abbrev M_LV_freeGathered : mn_M := (⟨"LabelledVolume", "freeGathered", "(I)V"⟩, prog_1_method_32_code, 3, (Option.none : Option Jvm.ClassFile.FieldType), [])
theorem mw_LV_freeGathered : mn_W M_LV_freeGathered := Or.inl ⟨gw_938, rfl⟩
theorem pl_LV_freeGathered : plainFor M_LV_freeGathered.1 = true := by decide +kernel
theorem nh_LV_freeGathered : mn_nh M_LV_freeGathered.1 := ⟨by decide, by decide⟩
theorem pn_LV_freeGathered : (parseMethodDescriptor M_LV_freeGathered.1.desc).map (fun d => d.parameters.length) = some 1 := by decide +kernel
abbrev M_Mod_init : mn_M := (⟨"LabelledVolumeModel", "<init>", "()V"⟩, prog_8_method_1_code, 2, (Option.none : Option Jvm.ClassFile.FieldType), [])
theorem mw_Mod_init : mn_W M_Mod_init := Or.inl ⟨gw_995, rfl⟩
theorem pl_Mod_init : plainFor M_Mod_init.1 = true := by decide +kernel
theorem nh_Mod_init : mn_nh M_Mod_init.1 := ⟨by decide, by decide⟩
theorem pn_Mod_init : (parseMethodDescriptor M_Mod_init.1.desc).map (fun d => d.parameters.length) = some 0 := by decide +kernel
abbrev M_Mod_thrown : mn_M := (⟨"LabelledVolumeModel", "thrown", "()I"⟩, prog_8_method_2_code, 1, (Option.some Jvm.ClassFile.FieldType.int), [])
theorem mw_Mod_thrown : mn_W M_Mod_thrown := Or.inl ⟨gw_1095, rfl⟩
theorem pl_Mod_thrown : plainFor M_Mod_thrown.1 = true := by decide +kernel
theorem nh_Mod_thrown : mn_nh M_Mod_thrown.1 := ⟨by decide, by decide⟩
theorem pn_Mod_thrown : (parseMethodDescriptor M_Mod_thrown.1.desc).map (fun d => d.parameters.length) = some 0 := by decide +kernel
abbrev M_Mod_label0 : mn_M := (⟨"LabelledVolumeModel", "label0", "(IIII)V"⟩, prog_8_method_3_code, 5, (Option.none : Option Jvm.ClassFile.FieldType), [])
theorem mw_Mod_label0 : mn_W M_Mod_label0 := Or.inl ⟨gw_1000, rfl⟩
theorem pl_Mod_label0 : plainFor M_Mod_label0.1 = true := by decide +kernel
theorem nh_Mod_label0 : mn_nh M_Mod_label0.1 := ⟨by decide, by decide⟩
theorem pn_Mod_label0 : (parseMethodDescriptor M_Mod_label0.1.desc).map (fun d => d.parameters.length) = some 4 := by decide +kernel
abbrev M_Mod_in : mn_M := (⟨"LabelledVolumeModel", "in", "(III)Z"⟩, prog_8_method_4_code, 3, (Option.some Jvm.ClassFile.FieldType.boolean), [])
theorem mw_Mod_in : mn_W M_Mod_in := Or.inl ⟨gw_1110, rfl⟩
theorem pl_Mod_in : plainFor M_Mod_in.1 = true := by decide +kernel
theorem nh_Mod_in : mn_nh M_Mod_in.1 := ⟨by decide, by decide⟩
theorem pn_Mod_in : (parseMethodDescriptor M_Mod_in.1.desc).map (fun d => d.parameters.length) = some 3 := by decide +kernel
abbrev M_Mod_isFree : mn_M := (⟨"LabelledVolumeModel", "isFree", "(I)Z"⟩, prog_8_method_5_code, 2, (Option.some Jvm.ClassFile.FieldType.boolean), [])
theorem mw_Mod_isFree : mn_W M_Mod_isFree := Or.inl ⟨gw_1154, rfl⟩
theorem pl_Mod_isFree : plainFor M_Mod_isFree.1 = true := by decide +kernel
theorem nh_Mod_isFree : mn_nh M_Mod_isFree.1 := ⟨by decide, by decide⟩
theorem pn_Mod_isFree : (parseMethodDescriptor M_Mod_isFree.1.desc).map (fun d => d.parameters.length) = some 1 := by decide +kernel
abbrev M_Mod_says : mn_M := (⟨"LabelledVolumeModel", "says", "(III)Z"⟩, prog_8_method_6_code, 4, (Option.some Jvm.ClassFile.FieldType.boolean), [])
theorem mw_Mod_says : mn_W M_Mod_says := Or.inl ⟨gw_1118, rfl⟩
theorem pl_Mod_says : plainFor M_Mod_says.1 = true := by decide +kernel
theorem nh_Mod_says : mn_nh M_Mod_says.1 := ⟨by decide, by decide⟩
theorem pn_Mod_says : (parseMethodDescriptor M_Mod_says.1.desc).map (fun d => d.parameters.length) = some 3 := by decide +kernel
abbrev M_Mod_look : mn_M := (⟨"LabelledVolumeModel", "look", "(III)Z"⟩, prog_8_method_7_code, 5, (Option.some Jvm.ClassFile.FieldType.boolean), [])
theorem mw_Mod_look : mn_W M_Mod_look := Or.inl ⟨gw_1114, rfl⟩
theorem pl_Mod_look : plainFor M_Mod_look.1 = true := by decide +kernel
theorem nh_Mod_look : mn_nh M_Mod_look.1 := ⟨by decide, by decide⟩
theorem pn_Mod_look : (parseMethodDescriptor M_Mod_look.1.desc).map (fun d => d.parameters.length) = some 3 := by decide +kernel
abbrev M_Mod_search : mn_M := (⟨"LabelledVolumeModel", "search", "(II)I"⟩, prog_8_method_8_code, 5, (Option.some Jvm.ClassFile.FieldType.int), [])
theorem mw_Mod_search : mn_W M_Mod_search := Or.inl ⟨gw_1122, rfl⟩
theorem pl_Mod_search : plainFor M_Mod_search.1 = true := by decide +kernel
theorem nh_Mod_search : mn_nh M_Mod_search.1 := ⟨by decide, by decide⟩
theorem pn_Mod_search : (parseMethodDescriptor M_Mod_search.1.desc).map (fun d => d.parameters.length) = some 2 := by decide +kernel
abbrev M_Mod_leader : mn_M := (⟨"LabelledVolumeModel", "leader", "(I)I"⟩, prog_8_method_9_code, 2, (Option.some Jvm.ClassFile.FieldType.int), [])
theorem mw_Mod_leader : mn_W M_Mod_leader := Or.inl ⟨gw_1107, rfl⟩
theorem pl_Mod_leader : plainFor M_Mod_leader.1 = true := by decide +kernel
theorem nh_Mod_leader : mn_nh M_Mod_leader.1 := ⟨by decide, by decide⟩
theorem pn_Mod_leader : (parseMethodDescriptor M_Mod_leader.1.desc).map (fun d => d.parameters.length) = some 1 := by decide +kernel
abbrev M_Mod_beside : mn_M := (⟨"LabelledVolumeModel", "beside", "(II)I"⟩, prog_8_method_10_code, 5, (Option.some Jvm.ClassFile.FieldType.int), [])
theorem mw_Mod_beside : mn_W M_Mod_beside := Or.inl ⟨gw_1138, rfl⟩
theorem pl_Mod_beside : plainFor M_Mod_beside.1 = true := by decide +kernel
theorem nh_Mod_beside : mn_nh M_Mod_beside.1 := ⟨by decide, by decide⟩
theorem pn_Mod_beside : (parseMethodDescriptor M_Mod_beside.1.desc).map (fun d => d.parameters.length) = some 2 := by decide +kernel
abbrev M_Mod_last : mn_M := (⟨"LabelledVolumeModel", "last", "(I)I"⟩, prog_8_method_11_code, 5, (Option.some Jvm.ClassFile.FieldType.int), [])
theorem mw_Mod_last : mn_W M_Mod_last := Or.inl ⟨gw_1206, rfl⟩
theorem pl_Mod_last : plainFor M_Mod_last.1 = true := by decide +kernel
theorem nh_Mod_last : mn_nh M_Mod_last.1 := ⟨by decide, by decide⟩
theorem pn_Mod_last : (parseMethodDescriptor M_Mod_last.1.desc).map (fun d => d.parameters.length) = some 1 := by decide +kernel
abbrev M_Mod_lengthAt : mn_M := (⟨"LabelledVolumeModel", "lengthAt", "(I)I"⟩, prog_8_method_12_code, 2, (Option.some Jvm.ClassFile.FieldType.int), [])
theorem mw_Mod_lengthAt : mn_W M_Mod_lengthAt := Or.inl ⟨gw_1210, rfl⟩
theorem pl_Mod_lengthAt : plainFor M_Mod_lengthAt.1 = true := by decide +kernel
theorem nh_Mod_lengthAt : mn_nh M_Mod_lengthAt.1 := ⟨by decide, by decide⟩
theorem pn_Mod_lengthAt : (parseMethodDescriptor M_Mod_lengthAt.1.desc).map (fun d => d.parameters.length) = some 1 := by decide +kernel
abbrev M_Mod_pageOf : mn_M := (⟨"LabelledVolumeModel", "pageOf", "(III)I"⟩, prog_8_method_13_code, 6, (Option.some Jvm.ClassFile.FieldType.int), [])
theorem mw_Mod_pageOf : mn_W M_Mod_pageOf := Or.inl ⟨gw_1214, rfl⟩
theorem pl_Mod_pageOf : plainFor M_Mod_pageOf.1 = true := by decide +kernel
theorem nh_Mod_pageOf : mn_nh M_Mod_pageOf.1 := ⟨by decide, by decide⟩
theorem pn_Mod_pageOf : (parseMethodDescriptor M_Mod_pageOf.1.desc).map (fun d => d.parameters.length) = some 3 := by decide +kernel
abbrev M_Mod_isDirectory : mn_M := (⟨"LabelledVolumeModel", "isDirectory", "(I)Z"⟩, prog_8_method_14_code, 2, (Option.some Jvm.ClassFile.FieldType.boolean), [])
theorem mw_Mod_isDirectory : mn_W M_Mod_isDirectory := Or.inl ⟨gw_1126, rfl⟩
theorem pl_Mod_isDirectory : plainFor M_Mod_isDirectory.1 = true := by decide +kernel
theorem nh_Mod_isDirectory : mn_nh M_Mod_isDirectory.1 := ⟨by decide, by decide⟩
theorem pn_Mod_isDirectory : (parseMethodDescriptor M_Mod_isDirectory.1.desc).map (fun d => d.parameters.length) = some 1 := by decide +kernel
abbrev M_Mod_nameAt : mn_M := (⟨"LabelledVolumeModel", "nameAt", "(I)I"⟩, prog_8_method_15_code, 2, (Option.some Jvm.ClassFile.FieldType.int), [])
theorem mw_Mod_nameAt : mn_W M_Mod_nameAt := Or.inl ⟨gw_1134, rfl⟩
theorem pl_Mod_nameAt : plainFor M_Mod_nameAt.1 = true := by decide +kernel
theorem nh_Mod_nameAt : mn_nh M_Mod_nameAt.1 := ⟨by decide, by decide⟩
theorem pn_Mod_nameAt : (parseMethodDescriptor M_Mod_nameAt.1.desc).map (fun d => d.parameters.length) = some 1 := by decide +kernel
abbrev M_Mod_go : mn_M := (⟨"LabelledVolumeModel", "go", "(III)Z"⟩, prog_8_method_16_code, 10, (Option.some Jvm.ClassFile.FieldType.boolean), [])
theorem mw_Mod_go : mn_W M_Mod_go := Or.inl ⟨gw_1130, rfl⟩
theorem pl_Mod_go : plainFor M_Mod_go.1 = true := by decide +kernel
theorem nh_Mod_go : mn_nh M_Mod_go.1 := ⟨by decide, by decide⟩
theorem pn_Mod_go : (parseMethodDescriptor M_Mod_go.1.desc).map (fun d => d.parameters.length) = some 3 := by decide +kernel
abbrev M_Mod_writes : mn_M := (⟨"LabelledVolumeModel", "writes", "()Z"⟩, prog_8_method_17_code, 1, (Option.some Jvm.ClassFile.FieldType.boolean), [])
theorem mw_Mod_writes : mn_W M_Mod_writes := Or.inl ⟨gw_1166, rfl⟩
theorem pl_Mod_writes : plainFor M_Mod_writes.1 = true := by decide +kernel
theorem nh_Mod_writes : mn_nh M_Mod_writes.1 := ⟨by decide, by decide⟩
theorem pn_Mod_writes : (parseMethodDescriptor M_Mod_writes.1.desc).map (fun d => d.parameters.length) = some 0 := by decide +kernel
abbrev M_Mod_empty : mn_M := (⟨"LabelledVolumeModel", "empty", "(I)V"⟩, prog_8_method_18_code, 3, (Option.none : Option Jvm.ClassFile.FieldType), [])
theorem mw_Mod_empty : mn_W M_Mod_empty := Or.inl ⟨gw_1174, rfl⟩
theorem pl_Mod_empty : plainFor M_Mod_empty.1 = true := by decide +kernel
theorem nh_Mod_empty : mn_nh M_Mod_empty.1 := ⟨by decide, by decide⟩
theorem pn_Mod_empty : (parseMethodDescriptor M_Mod_empty.1.desc).map (fun d => d.parameters.length) = some 1 := by decide +kernel
abbrev M_Mod_free : mn_M := (⟨"LabelledVolumeModel", "free", "(I)V"⟩, prog_8_method_19_code, 2, (Option.none : Option Jvm.ClassFile.FieldType), [])
theorem mw_Mod_free : mn_W M_Mod_free := Or.inl ⟨gw_1238, rfl⟩
theorem pl_Mod_free : plainFor M_Mod_free.1 = true := by decide +kernel
theorem nh_Mod_free : mn_nh M_Mod_free.1 := ⟨by decide, by decide⟩
theorem pn_Mod_free : (parseMethodDescriptor M_Mod_free.1.desc).map (fun d => d.parameters.length) = some 1 := by decide +kernel
abbrev M_Mod_setEntry : mn_M := (⟨"LabelledVolumeModel", "setEntry", "(IIII)V"⟩, prog_8_method_20_code, 5, (Option.none : Option Jvm.ClassFile.FieldType), [])
theorem mw_Mod_setEntry : mn_W M_Mod_setEntry := Or.inl ⟨gw_1178, rfl⟩
theorem pl_Mod_setEntry : plainFor M_Mod_setEntry.1 = true := by decide +kernel
theorem nh_Mod_setEntry : mn_nh M_Mod_setEntry.1 := ⟨by decide, by decide⟩
theorem pn_Mod_setEntry : (parseMethodDescriptor M_Mod_setEntry.1.desc).map (fun d => d.parameters.length) = some 4 := by decide +kernel
abbrev M_Mod_findMap : mn_M := (⟨"LabelledVolumeModel", "findMap", "()V"⟩, prog_8_method_21_code, 3, (Option.none : Option Jvm.ClassFile.FieldType), [])
theorem mw_Mod_findMap : mn_W M_Mod_findMap := Or.inl ⟨gw_1150, rfl⟩
theorem pl_Mod_findMap : plainFor M_Mod_findMap.1 = true := by decide +kernel
theorem nh_Mod_findMap : mn_nh M_Mod_findMap.1 := ⟨by decide, by decide⟩
theorem pn_Mod_findMap : (parseMethodDescriptor M_Mod_findMap.1.desc).map (fun d => d.parameters.length) = some 0 := by decide +kernel
abbrev M_Mod_takes : mn_M := (⟨"LabelledVolumeModel", "takes", "(I)Z"⟩, prog_8_method_22_code, 6, (Option.some Jvm.ClassFile.FieldType.boolean), [])
theorem mw_Mod_takes : mn_W M_Mod_takes := Or.inl ⟨gw_1146, rfl⟩
theorem pl_Mod_takes : plainFor M_Mod_takes.1 = true := by decide +kernel
theorem nh_Mod_takes : mn_nh M_Mod_takes.1 := ⟨by decide, by decide⟩
theorem pn_Mod_takes : (parseMethodDescriptor M_Mod_takes.1.desc).map (fun d => d.parameters.length) = some 1 := by decide +kernel
abbrev M_Mod_taken : mn_M := (⟨"LabelledVolumeModel", "taken", "(I)I"⟩, prog_8_method_23_code, 4, (Option.some Jvm.ClassFile.FieldType.int), [])
theorem mw_Mod_taken : mn_W M_Mod_taken := Or.inl ⟨gw_1162, rfl⟩
theorem pl_Mod_taken : plainFor M_Mod_taken.1 = true := by decide +kernel
theorem nh_Mod_taken : mn_nh M_Mod_taken.1 := ⟨by decide, by decide⟩
theorem pn_Mod_taken : (parseMethodDescriptor M_Mod_taken.1.desc).map (fun d => d.parameters.length) = some 1 := by decide +kernel
abbrev M_Mod_putMap : mn_M := (⟨"LabelledVolumeModel", "putMap", "()V"⟩, prog_8_method_24_code, 7, (Option.none : Option Jvm.ClassFile.FieldType), [])
theorem mw_Mod_putMap : mn_W M_Mod_putMap := Or.inl ⟨gw_1186, rfl⟩
theorem pl_Mod_putMap : plainFor M_Mod_putMap.1 = true := by decide +kernel
theorem nh_Mod_putMap : mn_nh M_Mod_putMap.1 := ⟨by decide, by decide⟩
theorem pn_Mod_putMap : (parseMethodDescriptor M_Mod_putMap.1.desc).map (fun d => d.parameters.length) = some 0 := by decide +kernel
abbrev M_Mod_append : mn_M := (⟨"LabelledVolumeModel", "append", "(IIIIIII)V"⟩, prog_8_method_25_code, 8, (Option.none : Option Jvm.ClassFile.FieldType), [])
theorem mw_Mod_append : mn_W M_Mod_append := Or.inl ⟨gw_1182, rfl⟩
theorem pl_Mod_append : plainFor M_Mod_append.1 = true := by decide +kernel
theorem nh_Mod_append : mn_nh M_Mod_append.1 := ⟨by decide, by decide⟩
theorem pn_Mod_append : (parseMethodDescriptor M_Mod_append.1.desc).map (fun d => d.parameters.length) = some 7 := by decide +kernel
abbrev M_Mod_begin : mn_M := (⟨"LabelledVolumeModel", "begin", "(I)I"⟩, prog_8_method_26_code, 3, (Option.some Jvm.ClassFile.FieldType.int), [])
theorem mw_Mod_begin : mn_W M_Mod_begin := Or.inl ⟨gw_1103, rfl⟩
theorem pl_Mod_begin : plainFor M_Mod_begin.1 = true := by decide +kernel
theorem nh_Mod_begin : mn_nh M_Mod_begin.1 := ⟨by decide, by decide⟩
theorem pn_Mod_begin : (parseMethodDescriptor M_Mod_begin.1.desc).map (fun d => d.parameters.length) = some 1 := by decide +kernel
abbrev M_Mod_ends : mn_M := (⟨"LabelledVolumeModel", "ends", "(IIIIII)I"⟩, prog_8_method_27_code, 7, (Option.some Jvm.ClassFile.FieldType.int), [])
theorem mw_Mod_ends : mn_W M_Mod_ends := Or.inl ⟨gw_1190, rfl⟩
theorem pl_Mod_ends : plainFor M_Mod_ends.1 = true := by decide +kernel
theorem nh_Mod_ends : mn_nh M_Mod_ends.1 := ⟨by decide, by decide⟩
theorem pn_Mod_ends : (parseMethodDescriptor M_Mod_ends.1.desc).map (fun d => d.parameters.length) = some 6 := by decide +kernel
abbrev M_Mod_lowestSerial : mn_M := (⟨"LabelledVolumeModel", "lowestSerial", "()I"⟩, prog_8_method_28_code, 5, (Option.some Jvm.ClassFile.FieldType.int), [])
theorem mw_Mod_lowestSerial : mn_W M_Mod_lowestSerial := Or.inl ⟨gw_1158, rfl⟩
theorem pl_Mod_lowestSerial : plainFor M_Mod_lowestSerial.1 = true := by decide +kernel
theorem nh_Mod_lowestSerial : mn_nh M_Mod_lowestSerial.1 := ⟨by decide, by decide⟩
theorem pn_Mod_lowestSerial : (parseMethodDescriptor M_Mod_lowestSerial.1.desc).map (fun d => d.parameters.length) = some 0 := by decide +kernel
abbrev M_Mod_makeLeader : mn_M := (⟨"LabelledVolumeModel", "makeLeader", "(IIII)V"⟩, prog_8_method_29_code, 5, (Option.none : Option Jvm.ClassFile.FieldType), [])
theorem mw_Mod_makeLeader : mn_W M_Mod_makeLeader := Or.inl ⟨gw_1170, rfl⟩
theorem pl_Mod_makeLeader : plainFor M_Mod_makeLeader.1 = true := by decide +kernel
theorem nh_Mod_makeLeader : mn_nh M_Mod_makeLeader.1 := ⟨by decide, by decide⟩
theorem pn_Mod_makeLeader : (parseMethodDescriptor M_Mod_makeLeader.1.desc).map (fun d => d.parameters.length) = some 4 := by decide +kernel
abbrev M_Mod_created : mn_M := (⟨"LabelledVolumeModel", "created", "(IIZ)I"⟩, prog_8_method_30_code, 7, (Option.some Jvm.ClassFile.FieldType.int), [])
theorem mw_Mod_created : mn_W M_Mod_created := Or.inl ⟨gw_1142, rfl⟩
theorem pl_Mod_created : plainFor M_Mod_created.1 = true := by decide +kernel
theorem nh_Mod_created : mn_nh M_Mod_created.1 := ⟨by decide, by decide⟩
theorem pn_Mod_created : (parseMethodDescriptor M_Mod_created.1.desc).map (fun d => d.parameters.length) = some 3 := by decide +kernel
abbrev M_Mod_create : mn_M := (⟨"LabelledVolumeModel", "create", "(IIZ)I"⟩, prog_8_method_31_code, 7, (Option.some Jvm.ClassFile.FieldType.int), [])
theorem mw_Mod_create : mn_W M_Mod_create := Or.inl ⟨gw_1099, rfl⟩
theorem pl_Mod_create : plainFor M_Mod_create.1 = true := by decide +kernel
theorem nh_Mod_create : mn_nh M_Mod_create.1 := ⟨by decide, by decide⟩
theorem pn_Mod_create : (parseMethodDescriptor M_Mod_create.1.desc).map (fun d => d.parameters.length) = some 3 := by decide +kernel
abbrev M_Mod_opened : mn_M := (⟨"LabelledVolumeModel", "opened", "(II)I"⟩, prog_8_method_32_code, 6, (Option.some Jvm.ClassFile.FieldType.int), [])
theorem mw_Mod_opened : mn_W M_Mod_opened := Or.inl ⟨gw_1198, rfl⟩
theorem pl_Mod_opened : plainFor M_Mod_opened.1 = true := by decide +kernel
theorem nh_Mod_opened : mn_nh M_Mod_opened.1 := ⟨by decide, by decide⟩
theorem pn_Mod_opened : (parseMethodDescriptor M_Mod_opened.1.desc).map (fun d => d.parameters.length) = some 2 := by decide +kernel
abbrev M_Mod_open : mn_M := (⟨"LabelledVolumeModel", "open", "(II)I"⟩, prog_8_method_33_code, 4, (Option.some Jvm.ClassFile.FieldType.int), [])
theorem mw_Mod_open : mn_W M_Mod_open := Or.inl ⟨gw_1194, rfl⟩
theorem pl_Mod_open : plainFor M_Mod_open.1 = true := by decide +kernel
theorem nh_Mod_open : mn_nh M_Mod_open.1 := ⟨by decide, by decide⟩
theorem pn_Mod_open : (parseMethodDescriptor M_Mod_open.1.desc).map (fun d => d.parameters.length) = some 2 := by decide +kernel
abbrev M_Mod_read : mn_M := (⟨"LabelledVolumeModel", "read", "(II)I"⟩, prog_8_method_34_code, 7, (Option.some Jvm.ClassFile.FieldType.int), [])
theorem mw_Mod_read : mn_W M_Mod_read := Or.inl ⟨gw_1202, rfl⟩
theorem pl_Mod_read : plainFor M_Mod_read.1 = true := by decide +kernel
theorem nh_Mod_read : mn_nh M_Mod_read.1 := ⟨by decide, by decide⟩
theorem pn_Mod_read : (parseMethodDescriptor M_Mod_read.1.desc).map (fun d => d.parameters.length) = some 2 := by decide +kernel
abbrev M_Mod_putByte : mn_M := (⟨"LabelledVolumeModel", "putByte", "(IIII)V"⟩, prog_8_method_35_code, 6, (Option.none : Option Jvm.ClassFile.FieldType), [])
theorem mw_Mod_putByte : mn_W M_Mod_putByte := Or.inl ⟨gw_1222, rfl⟩
theorem pl_Mod_putByte : plainFor M_Mod_putByte.1 = true := by decide +kernel
theorem nh_Mod_putByte : mn_nh M_Mod_putByte.1 := ⟨by decide, by decide⟩
theorem pn_Mod_putByte : (parseMethodDescriptor M_Mod_putByte.1.desc).map (fun d => d.parameters.length) = some 4 := by decide +kernel
abbrev M_Mod_write : mn_M := (⟨"LabelledVolumeModel", "write", "(III)V"⟩, prog_8_method_36_code, 7, (Option.none : Option Jvm.ClassFile.FieldType), [])
theorem mw_Mod_write : mn_W M_Mod_write := Or.inl ⟨gw_1218, rfl⟩
theorem pl_Mod_write : plainFor M_Mod_write.1 = true := by decide +kernel
theorem nh_Mod_write : mn_nh M_Mod_write.1 := ⟨by decide, by decide⟩
theorem pn_Mod_write : (parseMethodDescriptor M_Mod_write.1.desc).map (fun d => d.parameters.length) = some 3 := by decide +kernel
abbrev M_Mod_down : mn_M := (⟨"LabelledVolumeModel", "down", "(II)I"⟩, prog_8_method_37_code, 5, (Option.some Jvm.ClassFile.FieldType.int), [])
theorem mw_Mod_down : mn_W M_Mod_down := Or.inl ⟨gw_1234, rfl⟩
theorem pl_Mod_down : plainFor M_Mod_down.1 = true := by decide +kernel
theorem nh_Mod_down : mn_nh M_Mod_down.1 := ⟨by decide, by decide⟩
theorem pn_Mod_down : (parseMethodDescriptor M_Mod_down.1.desc).map (fun d => d.parameters.length) = some 2 := by decide +kernel
abbrev M_Mod_shortened : mn_M := (⟨"LabelledVolumeModel", "shortened", "(III)V"⟩, prog_8_method_38_code, 7, (Option.none : Option Jvm.ClassFile.FieldType), [])
theorem mw_Mod_shortened : mn_W M_Mod_shortened := Or.inl ⟨gw_1230, rfl⟩
theorem pl_Mod_shortened : plainFor M_Mod_shortened.1 = true := by decide +kernel
theorem nh_Mod_shortened : mn_nh M_Mod_shortened.1 := ⟨by decide, by decide⟩
theorem pn_Mod_shortened : (parseMethodDescriptor M_Mod_shortened.1.desc).map (fun d => d.parameters.length) = some 3 := by decide +kernel
abbrev M_Mod_shorten : mn_M := (⟨"LabelledVolumeModel", "shorten", "(II)V"⟩, prog_8_method_39_code, 6, (Option.none : Option Jvm.ClassFile.FieldType), [])
theorem mw_Mod_shorten : mn_W M_Mod_shorten := Or.inl ⟨gw_1226, rfl⟩
theorem pl_Mod_shorten : plainFor M_Mod_shorten.1 = true := by decide +kernel
theorem nh_Mod_shorten : mn_nh M_Mod_shorten.1 := ⟨by decide, by decide⟩
theorem pn_Mod_shorten : (parseMethodDescriptor M_Mod_shorten.1.desc).map (fun d => d.parameters.length) = some 2 := by decide +kernel
abbrev M_Mod_removed : mn_M := (⟨"LabelledVolumeModel", "removed", "(II)I"⟩, prog_8_method_40_code, 6, (Option.some Jvm.ClassFile.FieldType.int), [])
theorem mw_Mod_removed : mn_W M_Mod_removed := Or.inl ⟨gw_1246, rfl⟩
theorem pl_Mod_removed : plainFor M_Mod_removed.1 = true := by decide +kernel
theorem nh_Mod_removed : mn_nh M_Mod_removed.1 := ⟨by decide, by decide⟩
theorem pn_Mod_removed : (parseMethodDescriptor M_Mod_removed.1.desc).map (fun d => d.parameters.length) = some 2 := by decide +kernel
abbrev M_Mod_remove : mn_M := (⟨"LabelledVolumeModel", "remove", "(II)I"⟩, prog_8_method_41_code, 5, (Option.some Jvm.ClassFile.FieldType.int), [])
theorem mw_Mod_remove : mn_W M_Mod_remove := Or.inl ⟨gw_1242, rfl⟩
theorem pl_Mod_remove : plainFor M_Mod_remove.1 = true := by decide +kernel
theorem nh_Mod_remove : mn_nh M_Mod_remove.1 := ⟨by decide, by decide⟩
theorem pn_Mod_remove : (parseMethodDescriptor M_Mod_remove.1.desc).map (fun d => d.parameters.length) = some 2 := by decide +kernel
abbrev M_Mod_length : mn_M := (⟨"LabelledVolumeModel", "length", "(I)I"⟩, prog_8_method_42_code, 4, (Option.some Jvm.ClassFile.FieldType.int), [])
theorem mw_Mod_length : mn_W M_Mod_length := Or.inl ⟨gw_1250, rfl⟩
theorem pl_Mod_length : plainFor M_Mod_length.1 = true := by decide +kernel
theorem nh_Mod_length : mn_nh M_Mod_length.1 := ⟨by decide, by decide⟩
theorem pn_Mod_length : (parseMethodDescriptor M_Mod_length.1.desc).map (fun d => d.parameters.length) = some 1 := by decide +kernel
abbrev M_Mod_entry : mn_M := (⟨"LabelledVolumeModel", "entry", "(III)I"⟩, prog_8_method_43_code, 6, (Option.some Jvm.ClassFile.FieldType.int), [])
theorem mw_Mod_entry : mn_W M_Mod_entry := Or.inl ⟨gw_1254, rfl⟩
theorem pl_Mod_entry : plainFor M_Mod_entry.1 = true := by decide +kernel
theorem nh_Mod_entry : mn_nh M_Mod_entry.1 := ⟨by decide, by decide⟩
theorem pn_Mod_entry : (parseMethodDescriptor M_Mod_entry.1.desc).map (fun d => d.parameters.length) = some 3 := by decide +kernel
abbrev M_Mod_headOf : mn_M := (⟨"LabelledVolumeModel", "headOf", "(I)I"⟩, prog_8_method_44_code, 2, (Option.some Jvm.ClassFile.FieldType.int), [])
theorem mw_Mod_headOf : mn_W M_Mod_headOf := Or.inl ⟨gw_1286, rfl⟩
theorem pl_Mod_headOf : plainFor M_Mod_headOf.1 = true := by decide +kernel
theorem nh_Mod_headOf : mn_nh M_Mod_headOf.1 := ⟨by decide, by decide⟩
theorem pn_Mod_headOf : (parseMethodDescriptor M_Mod_headOf.1.desc).map (fun d => d.parameters.length) = some 1 := by decide +kernel
abbrev M_Mod_pageAt : mn_M := (⟨"LabelledVolumeModel", "pageAt", "(II)I"⟩, prog_8_method_45_code, 3, (Option.some Jvm.ClassFile.FieldType.int), [])
theorem mw_Mod_pageAt : mn_W M_Mod_pageAt := Or.inl ⟨gw_1270, rfl⟩
theorem pl_Mod_pageAt : plainFor M_Mod_pageAt.1 = true := by decide +kernel
theorem nh_Mod_pageAt : mn_nh M_Mod_pageAt.1 := ⟨by decide, by decide⟩
theorem pn_Mod_pageAt : (parseMethodDescriptor M_Mod_pageAt.1.desc).map (fun d => d.parameters.length) = some 2 := by decide +kernel
abbrev M_Mod_remember : mn_M := (⟨"LabelledVolumeModel", "remember", "()V"⟩, prog_8_method_46_code, 2, (Option.none : Option Jvm.ClassFile.FieldType), [])
theorem mw_Mod_remember : mn_W M_Mod_remember := Or.inl ⟨gw_1262, rfl⟩
theorem pl_Mod_remember : plainFor M_Mod_remember.1 = true := by decide +kernel
theorem nh_Mod_remember : mn_nh M_Mod_remember.1 := ⟨by decide, by decide⟩
theorem pn_Mod_remember : (parseMethodDescriptor M_Mod_remember.1.desc).map (fun d => d.parameters.length) = some 0 := by decide +kernel
abbrev M_Mod_isOther : mn_M := (⟨"LabelledVolumeModel", "isOther", "(I)Z"⟩, prog_8_method_47_code, 4, (Option.some Jvm.ClassFile.FieldType.boolean), [])
theorem mw_Mod_isOther : mn_W M_Mod_isOther := Or.inl ⟨gw_1343, rfl⟩
theorem pl_Mod_isOther : plainFor M_Mod_isOther.1 = true := by decide +kernel
theorem nh_Mod_isOther : mn_nh M_Mod_isOther.1 := ⟨by decide, by decide⟩
theorem pn_Mod_isOther : (parseMethodDescriptor M_Mod_isOther.1.desc).map (fun d => d.parameters.length) = some 1 := by decide +kernel
abbrev M_Mod_lowestFree : mn_M := (⟨"LabelledVolumeModel", "lowestFree", "()I"⟩, prog_8_method_48_code, 3, (Option.some Jvm.ClassFile.FieldType.int), [])
theorem mw_Mod_lowestFree : mn_W M_Mod_lowestFree := Or.inl ⟨gw_1294, rfl⟩
theorem pl_Mod_lowestFree : plainFor M_Mod_lowestFree.1 = true := by decide +kernel
theorem nh_Mod_lowestFree : mn_nh M_Mod_lowestFree.1 := ⟨by decide, by decide⟩
theorem pn_Mod_lowestFree : (parseMethodDescriptor M_Mod_lowestFree.1.desc).map (fun d => d.parameters.length) = some 0 := by decide +kernel
abbrev M_Mod_lose : mn_M := (⟨"LabelledVolumeModel", "lose", "(I)V"⟩, prog_8_method_49_code, 2, (Option.none : Option Jvm.ClassFile.FieldType), [])
theorem mw_Mod_lose : mn_W M_Mod_lose := Or.inl ⟨gw_1278, rfl⟩
theorem pl_Mod_lose : plainFor M_Mod_lose.1 = true := by decide +kernel
theorem nh_Mod_lose : mn_nh M_Mod_lose.1 := ⟨by decide, by decide⟩
theorem pn_Mod_lose : (parseMethodDescriptor M_Mod_lose.1.desc).map (fun d => d.parameters.length) = some 1 := by decide +kernel
abbrev M_Mod_keep : mn_M := (⟨"LabelledVolumeModel", "keep", "(I)V"⟩, prog_8_method_50_code, 5, (Option.none : Option Jvm.ClassFile.FieldType), [])
theorem mw_Mod_keep : mn_W M_Mod_keep := Or.inl ⟨gw_1266, rfl⟩
theorem pl_Mod_keep : plainFor M_Mod_keep.1 = true := by decide +kernel
theorem nh_Mod_keep : mn_nh M_Mod_keep.1 := ⟨by decide, by decide⟩
theorem pn_Mod_keep : (parseMethodDescriptor M_Mod_keep.1.desc).map (fun d => d.parameters.length) = some 1 := by decide +kernel
abbrev M_Mod_isKept : mn_M := (⟨"LabelledVolumeModel", "isKept", "(I)Z"⟩, prog_8_method_51_code, 4, (Option.some Jvm.ClassFile.FieldType.boolean), [])
theorem mw_Mod_isKept : mn_W M_Mod_isKept := Or.inl ⟨gw_1274, rfl⟩
theorem pl_Mod_isKept : plainFor M_Mod_isKept.1 = true := by decide +kernel
theorem nh_Mod_isKept : mn_nh M_Mod_isKept.1 := ⟨by decide, by decide⟩
theorem pn_Mod_isKept : (parseMethodDescriptor M_Mod_isKept.1.desc).map (fun d => d.parameters.length) = some 1 := by decide +kernel
abbrev M_Mod_losePages : mn_M := (⟨"LabelledVolumeModel", "losePages", "(I)V"⟩, prog_8_method_52_code, 3, (Option.none : Option Jvm.ClassFile.FieldType), [])
theorem mw_Mod_losePages : mn_W M_Mod_losePages := Or.inl ⟨gw_1298, rfl⟩
theorem pl_Mod_losePages : plainFor M_Mod_losePages.1 = true := by decide +kernel
theorem nh_Mod_losePages : mn_nh M_Mod_losePages.1 := ⟨by decide, by decide⟩
theorem pn_Mod_losePages : (parseMethodDescriptor M_Mod_losePages.1.desc).map (fun d => d.parameters.length) = some 1 := by decide +kernel
abbrev M_Mod_crown : mn_M := (⟨"LabelledVolumeModel", "crown", "(III)V"⟩, prog_8_method_53_code, 5, (Option.none : Option Jvm.ClassFile.FieldType), [])
theorem mw_Mod_crown : mn_W M_Mod_crown := Or.inl ⟨gw_1290, rfl⟩
theorem pl_Mod_crown : plainFor M_Mod_crown.1 = true := by decide +kernel
theorem nh_Mod_crown : mn_nh M_Mod_crown.1 := ⟨by decide, by decide⟩
theorem pn_Mod_crown : (parseMethodDescriptor M_Mod_crown.1.desc).map (fun d => d.parameters.length) = some 3 := by decide +kernel
abbrev M_Mod_heads : mn_M := (⟨"LabelledVolumeModel", "heads", "()V"⟩, prog_8_method_54_code, 3, (Option.none : Option Jvm.ClassFile.FieldType), [])
theorem mw_Mod_heads : mn_W M_Mod_heads := Or.inl ⟨gw_1282, rfl⟩
theorem pl_Mod_heads : plainFor M_Mod_heads.1 = true := by decide +kernel
theorem nh_Mod_heads : mn_nh M_Mod_heads.1 := ⟨by decide, by decide⟩
theorem pn_Mod_heads : (parseMethodDescriptor M_Mod_heads.1.desc).map (fun d => d.parameters.length) = some 0 := by decide +kernel
abbrev M_Mod_place : mn_M := (⟨"LabelledVolumeModel", "place", "(II)I"⟩, prog_8_method_55_code, 6, (Option.some Jvm.ClassFile.FieldType.int), [])
theorem mw_Mod_place : mn_W M_Mod_place := Or.inl ⟨gw_1311, rfl⟩
theorem pl_Mod_place : plainFor M_Mod_place.1 = true := by decide +kernel
theorem nh_Mod_place : mn_nh M_Mod_place.1 := ⟨by decide, by decide⟩
theorem pn_Mod_place : (parseMethodDescriptor M_Mod_place.1.desc).map (fun d => d.parameters.length) = some 2 := by decide +kernel
abbrev M_Mod_isThere : mn_M := (⟨"LabelledVolumeModel", "isThere", "(I)Z"⟩, prog_8_method_56_code, 2, (Option.some Jvm.ClassFile.FieldType.boolean), [])
theorem mw_Mod_isThere : mn_W M_Mod_isThere := Or.inl ⟨gw_1302, rfl⟩
theorem pl_Mod_isThere : plainFor M_Mod_isThere.1 = true := by decide +kernel
theorem nh_Mod_isThere : mn_nh M_Mod_isThere.1 := ⟨by decide, by decide⟩
theorem pn_Mod_isThere : (parseMethodDescriptor M_Mod_isThere.1.desc).map (fun d => d.parameters.length) = some 1 := by decide +kernel
abbrev M_Mod_walk : mn_M := (⟨"LabelledVolumeModel", "walk", "(I)V"⟩, prog_8_method_57_code, 7, (Option.none : Option Jvm.ClassFile.FieldType), [])
theorem mw_Mod_walk : mn_W M_Mod_walk := Or.inl ⟨gw_1306, rfl⟩
theorem pl_Mod_walk : plainFor M_Mod_walk.1 = true := by decide +kernel
theorem nh_Mod_walk : mn_nh M_Mod_walk.1 := ⟨by decide, by decide⟩
theorem pn_Mod_walk : (parseMethodDescriptor M_Mod_walk.1.desc).map (fun d => d.parameters.length) = some 1 := by decide +kernel
abbrev M_Mod_isNamed : mn_M := (⟨"LabelledVolumeModel", "isNamed", "(I)Z"⟩, prog_8_method_58_code, 7, (Option.some Jvm.ClassFile.FieldType.boolean), [])
theorem mw_Mod_isNamed : mn_W M_Mod_isNamed := Or.inl ⟨gw_1323, rfl⟩
theorem pl_Mod_isNamed : plainFor M_Mod_isNamed.1 = true := by decide +kernel
theorem nh_Mod_isNamed : mn_nh M_Mod_isNamed.1 := ⟨by decide, by decide⟩
theorem pn_Mod_isNamed : (parseMethodDescriptor M_Mod_isNamed.1.desc).map (fun d => d.parameters.length) = some 1 := by decide +kernel
abbrev M_Mod_orphan : mn_M := (⟨"LabelledVolumeModel", "orphan", "()I"⟩, prog_8_method_59_code, 4, (Option.some Jvm.ClassFile.FieldType.int), [])
theorem mw_Mod_orphan : mn_W M_Mod_orphan := Or.inl ⟨gw_1319, rfl⟩
theorem pl_Mod_orphan : plainFor M_Mod_orphan.1 = true := by decide +kernel
theorem nh_Mod_orphan : mn_nh M_Mod_orphan.1 := ⟨by decide, by decide⟩
theorem pn_Mod_orphan : (parseMethodDescriptor M_Mod_orphan.1.desc).map (fun d => d.parameters.length) = some 0 := by decide +kernel
abbrev M_Mod_room : mn_M := (⟨"LabelledVolumeModel", "room", "()I"⟩, prog_8_method_60_code, 3, (Option.some Jvm.ClassFile.FieldType.int), [])
theorem mw_Mod_room : mn_W M_Mod_room := Or.inl ⟨gw_1331, rfl⟩
theorem pl_Mod_room : plainFor M_Mod_room.1 = true := by decide +kernel
theorem nh_Mod_room : mn_nh M_Mod_room.1 := ⟨by decide, by decide⟩
theorem pn_Mod_room : (parseMethodDescriptor M_Mod_room.1.desc).map (fun d => d.parameters.length) = some 0 := by decide +kernel
abbrev M_Mod_rootHas : mn_M := (⟨"LabelledVolumeModel", "rootHas", "(I)Z"⟩, prog_8_method_61_code, 4, (Option.some Jvm.ClassFile.FieldType.boolean), [])
theorem mw_Mod_rootHas : mn_W M_Mod_rootHas := Or.inl ⟨gw_1327, rfl⟩
theorem pl_Mod_rootHas : plainFor M_Mod_rootHas.1 = true := by decide +kernel
theorem nh_Mod_rootHas : mn_nh M_Mod_rootHas.1 := ⟨by decide, by decide⟩
theorem pn_Mod_rootHas : (parseMethodDescriptor M_Mod_rootHas.1.desc).map (fun d => d.parameters.length) = some 1 := by decide +kernel
abbrev M_Mod_adopt : mn_M := (⟨"LabelledVolumeModel", "adopt", "()V"⟩, prog_8_method_62_code, 7, (Option.none : Option Jvm.ClassFile.FieldType), [])
theorem mw_Mod_adopt : mn_W M_Mod_adopt := Or.inl ⟨gw_1315, rfl⟩
theorem pl_Mod_adopt : plainFor M_Mod_adopt.1 = true := by decide +kernel
theorem nh_Mod_adopt : mn_nh M_Mod_adopt.1 := ⟨by decide, by decide⟩
theorem pn_Mod_adopt : (parseMethodDescriptor M_Mod_adopt.1.desc).map (fun d => d.parameters.length) = some 0 := by decide +kernel
abbrev M_Mod_link : mn_M := (⟨"LabelledVolumeModel", "link", "(I)V"⟩, prog_8_method_63_code, 4, (Option.none : Option Jvm.ClassFile.FieldType), [])
theorem mw_Mod_link : mn_W M_Mod_link := Or.inl ⟨gw_1339, rfl⟩
theorem pl_Mod_link : plainFor M_Mod_link.1 = true := by decide +kernel
theorem nh_Mod_link : mn_nh M_Mod_link.1 := ⟨by decide, by decide⟩
theorem pn_Mod_link : (parseMethodDescriptor M_Mod_link.1.desc).map (fun d => d.parameters.length) = some 1 := by decide +kernel
abbrev M_Mod_right : mn_M := (⟨"LabelledVolumeModel", "right", "()V"⟩, prog_8_method_64_code, 3, (Option.none : Option Jvm.ClassFile.FieldType), [])
theorem mw_Mod_right : mn_W M_Mod_right := Or.inl ⟨gw_1335, rfl⟩
theorem pl_Mod_right : plainFor M_Mod_right.1 = true := by decide +kernel
theorem nh_Mod_right : mn_nh M_Mod_right.1 := ⟨by decide, by decide⟩
theorem pn_Mod_right : (parseMethodDescriptor M_Mod_right.1.desc).map (fun d => d.parameters.length) = some 0 := by decide +kernel
abbrev M_Mod_scavenge : mn_M := (⟨"LabelledVolumeModel", "scavenge", "()I"⟩, prog_8_method_65_code, 2, (Option.some Jvm.ClassFile.FieldType.int), [])
theorem mw_Mod_scavenge : mn_W M_Mod_scavenge := Or.inl ⟨gw_1258, rfl⟩
theorem pl_Mod_scavenge : plainFor M_Mod_scavenge.1 = true := by decide +kernel
theorem nh_Mod_scavenge : mn_nh M_Mod_scavenge.1 := ⟨by decide, by decide⟩
theorem pn_Mod_scavenge : (parseMethodDescriptor M_Mod_scavenge.1.desc).map (fun d => d.parameters.length) = some 0 := by decide +kernel
abbrev M_Mod_charge : mn_M := (⟨"LabelledVolumeModel", "charge", "(I)V"⟩, prog_8_method_66_code, 2, (Option.none : Option Jvm.ClassFile.FieldType), [])
theorem mw_Mod_charge : mn_W M_Mod_charge := Or.inl ⟨gw_1347, rfl⟩
theorem pl_Mod_charge : plainFor M_Mod_charge.1 = true := by decide +kernel
theorem nh_Mod_charge : mn_nh M_Mod_charge.1 := ⟨by decide, by decide⟩
theorem pn_Mod_charge : (parseMethodDescriptor M_Mod_charge.1.desc).map (fun d => d.parameters.length) = some 1 := by decide +kernel
abbrev M_Mod_isSector : mn_M := (⟨"LabelledVolumeModel", "isSector", "(I)Z"⟩, prog_8_method_67_code, 1, (Option.some Jvm.ClassFile.FieldType.boolean), [])
theorem mw_Mod_isSector : mn_W M_Mod_isSector := Or.inl ⟨gw_1354, rfl⟩
theorem pl_Mod_isSector : plainFor M_Mod_isSector.1 = true := by decide +kernel
theorem nh_Mod_isSector : mn_nh M_Mod_isSector.1 := ⟨by decide, by decide⟩
theorem pn_Mod_isSector : (parseMethodDescriptor M_Mod_isSector.1.desc).map (fun d => d.parameters.length) = some 1 := by decide +kernel
abbrev M_Mod_spoil : mn_M := (⟨"LabelledVolumeModel", "spoil", "(III)Z"⟩, prog_8_method_68_code, 4, (Option.some Jvm.ClassFile.FieldType.boolean), [])
theorem mw_Mod_spoil : mn_W M_Mod_spoil := Or.inl ⟨gw_1351, rfl⟩
theorem pl_Mod_spoil : plainFor M_Mod_spoil.1 = true := by decide +kernel
theorem nh_Mod_spoil : mn_nh M_Mod_spoil.1 := ⟨by decide, by decide⟩
theorem pn_Mod_spoil : (parseMethodDescriptor M_Mod_spoil.1.desc).map (fun d => d.parameters.length) = some 3 := by decide +kernel
abbrev M_Mod_scratch : mn_M := (⟨"LabelledVolumeModel", "scratch", "(I)Z"⟩, prog_8_method_69_code, 2, (Option.some Jvm.ClassFile.FieldType.boolean), [])
theorem mw_Mod_scratch : mn_W M_Mod_scratch := Or.inl ⟨gw_1358, rfl⟩
theorem pl_Mod_scratch : plainFor M_Mod_scratch.1 = true := by decide +kernel
theorem nh_Mod_scratch : mn_nh M_Mod_scratch.1 := ⟨by decide, by decide⟩
theorem pn_Mod_scratch : (parseMethodDescriptor M_Mod_scratch.1.desc).map (fun d => d.parameters.length) = some 1 := by decide +kernel
abbrev M_Mod_ghost : mn_M := (⟨"LabelledVolumeModel", "ghost", "(II)Z"⟩, prog_8_method_70_code, 4, (Option.some Jvm.ClassFile.FieldType.boolean), [])
theorem mw_Mod_ghost : mn_W M_Mod_ghost := Or.inl ⟨gw_1362, rfl⟩
theorem pl_Mod_ghost : plainFor M_Mod_ghost.1 = true := by decide +kernel
theorem nh_Mod_ghost : mn_nh M_Mod_ghost.1 := ⟨by decide, by decide⟩
theorem pn_Mod_ghost : (parseMethodDescriptor M_Mod_ghost.1.desc).map (fun d => d.parameters.length) = some 2 := by decide +kernel
abbrev M_Mod_label : mn_M := (⟨"LabelledVolumeModel", "label", "(II)I"⟩, prog_8_method_71_code, 3, (Option.some Jvm.ClassFile.FieldType.int), [])
theorem mw_Mod_label : mn_W M_Mod_label := Or.inl ⟨gw_1366, rfl⟩
theorem pl_Mod_label : plainFor M_Mod_label.1 = true := by decide +kernel
theorem nh_Mod_label : mn_nh M_Mod_label.1 := ⟨by decide, by decide⟩
theorem pn_Mod_label : (parseMethodDescriptor M_Mod_label.1.desc).map (fun d => d.parameters.length) = some 2 := by decide +kernel
abbrev M_Mod_data : mn_M := (⟨"LabelledVolumeModel", "data", "(II)I"⟩, prog_8_method_72_code, 3, (Option.some Jvm.ClassFile.FieldType.int), [])
theorem mw_Mod_data : mn_W M_Mod_data := Or.inl ⟨gw_1370, rfl⟩
theorem pl_Mod_data : plainFor M_Mod_data.1 = true := by decide +kernel
theorem nh_Mod_data : mn_nh M_Mod_data.1 := ⟨by decide, by decide⟩
theorem pn_Mod_data : (parseMethodDescriptor M_Mod_data.1.desc).map (fun d => d.parameters.length) = some 2 := by decide +kernel
abbrev M_Mod_state : mn_M := (⟨"LabelledVolumeModel", "state", "(I)I"⟩, prog_8_method_73_code, 5, (Option.some Jvm.ClassFile.FieldType.int), [])
theorem mw_Mod_state : mn_W M_Mod_state := Or.inl ⟨gw_1374, rfl⟩
theorem pl_Mod_state : plainFor M_Mod_state.1 = true := by decide +kernel
theorem nh_Mod_state : mn_nh M_Mod_state.1 := ⟨by decide, by decide⟩
theorem pn_Mod_state : (parseMethodDescriptor M_Mod_state.1.desc).map (fun d => d.parameters.length) = some 1 := by decide +kernel
abbrev M_Mod_report : mn_M := (⟨"LabelledVolumeModel", "report", "(I)I"⟩, prog_8_method_74_code, 2, (Option.some Jvm.ClassFile.FieldType.int), [])
theorem mw_Mod_report : mn_W M_Mod_report := Or.inl ⟨gw_1378, rfl⟩
theorem pl_Mod_report : plainFor M_Mod_report.1 = true := by decide +kernel
theorem nh_Mod_report : mn_nh M_Mod_report.1 := ⟨by decide, by decide⟩
theorem pn_Mod_report : (parseMethodDescriptor M_Mod_report.1.desc).map (fun d => d.parameters.length) = some 1 := by decide +kernel
abbrev M_Disk_init : mn_M := (⟨"LabelledVolume$Disk", "<init>", "()V"⟩, prog_2_method_1_code, 1, (Option.none : Option Jvm.ClassFile.FieldType), [])
theorem mw_Disk_init : mn_W M_Disk_init := Or.inl ⟨gw_130, rfl⟩
theorem pl_Disk_init : plainFor M_Disk_init.1 = true := by decide +kernel
theorem nh_Disk_init : mn_nh M_Disk_init.1 := ⟨by decide, by decide⟩
theorem pn_Disk_init : (parseMethodDescriptor M_Disk_init.1.desc).map (fun d => d.parameters.length) = some 0 := by decide +kernel
abbrev M_Disk_format : mn_M := (⟨"LabelledVolume$Disk", "format", "()V"⟩, prog_2_method_2_code, 2, (Option.none : Option Jvm.ClassFile.FieldType), [])
theorem mw_Disk_format : mn_W M_Disk_format := Or.inl ⟨gw_172, rfl⟩
theorem pl_Disk_format : plainFor M_Disk_format.1 = true := by decide +kernel
theorem nh_Disk_format : mn_nh M_Disk_format.1 := ⟨by decide, by decide⟩
theorem pn_Disk_format : (parseMethodDescriptor M_Disk_format.1.desc).map (fun d => d.parameters.length) = some 0 := by decide +kernel
abbrev M_Disk_isReadable : mn_M := (⟨"LabelledVolume$Disk", "isReadable", "(I)Z"⟩, prog_2_method_3_code, 2, (Option.some Jvm.ClassFile.FieldType.boolean), [])
theorem mw_Disk_isReadable : mn_W M_Disk_isReadable := Or.inl ⟨gw_512, rfl⟩
theorem pl_Disk_isReadable : plainFor M_Disk_isReadable.1 = true := by decide +kernel
theorem nh_Disk_isReadable : mn_nh M_Disk_isReadable.1 := ⟨by decide, by decide⟩
theorem pn_Disk_isReadable : (parseMethodDescriptor M_Disk_isReadable.1.desc).map (fun d => d.parameters.length) = some 1 := by decide +kernel
abbrev M_Disk_cell : mn_M := (⟨"LabelledVolume$Disk", "cell", "(II)I"⟩, prog_2_method_4_code, 4, (Option.some Jvm.ClassFile.FieldType.int), [])
theorem mw_Disk_cell : mn_W M_Disk_cell := Or.inl ⟨gw_200, rfl⟩
theorem pl_Disk_cell : plainFor M_Disk_cell.1 = true := by decide +kernel
theorem nh_Disk_cell : mn_nh M_Disk_cell.1 := ⟨by decide, by decide⟩
theorem pn_Disk_cell : (parseMethodDescriptor M_Disk_cell.1.desc).map (fun d => d.parameters.length) = some 2 := by decide +kernel
abbrev M_Disk_setCell : mn_M := (⟨"LabelledVolume$Disk", "setCell", "(III)V"⟩, prog_2_method_5_code, 5, (Option.none : Option Jvm.ClassFile.FieldType), [])
theorem mw_Disk_setCell : mn_W M_Disk_setCell := Or.inl ⟨gw_180, rfl⟩
theorem pl_Disk_setCell : plainFor M_Disk_setCell.1 = true := by decide +kernel
theorem nh_Disk_setCell : mn_nh M_Disk_setCell.1 := ⟨by decide, by decide⟩
theorem pn_Disk_setCell : (parseMethodDescriptor M_Disk_setCell.1.desc).map (fun d => d.parameters.length) = some 3 := by decide +kernel
abbrev M_Disk_isFree : mn_M := (⟨"LabelledVolume$Disk", "isFree", "(I)Z"⟩, prog_2_method_6_code, 2, (Option.some Jvm.ClassFile.FieldType.boolean), [])
theorem mw_Disk_isFree : mn_W M_Disk_isFree := Or.inl ⟨gw_208, rfl⟩
theorem pl_Disk_isFree : plainFor M_Disk_isFree.1 = true := by decide +kernel
theorem nh_Disk_isFree : mn_nh M_Disk_isFree.1 := ⟨by decide, by decide⟩
theorem pn_Disk_isFree : (parseMethodDescriptor M_Disk_isFree.1.desc).map (fun d => d.parameters.length) = some 1 := by decide +kernel
abbrev M_Disk_isInUse : mn_M := (⟨"LabelledVolume$Disk", "isInUse", "(I)Z"⟩, prog_2_method_7_code, 2, (Option.some Jvm.ClassFile.FieldType.boolean), [])
theorem mw_Disk_isInUse : mn_W M_Disk_isInUse := Or.inl ⟨gw_357, rfl⟩
theorem pl_Disk_isInUse : plainFor M_Disk_isInUse.1 = true := by decide +kernel
theorem nh_Disk_isInUse : mn_nh M_Disk_isInUse.1 := ⟨by decide, by decide⟩
theorem pn_Disk_isInUse : (parseMethodDescriptor M_Disk_isInUse.1.desc).map (fun d => d.parameters.length) = some 1 := by decide +kernel
abbrev M_Disk_byteAt : mn_M := (⟨"LabelledVolume$Disk", "byteAt", "(II)I"⟩, prog_2_method_8_code, 3, (Option.some Jvm.ClassFile.FieldType.int), [])
theorem mw_Disk_byteAt : mn_W M_Disk_byteAt := Or.inl ⟨gw_414, rfl⟩
theorem pl_Disk_byteAt : plainFor M_Disk_byteAt.1 = true := by decide +kernel
theorem nh_Disk_byteAt : mn_nh M_Disk_byteAt.1 := ⟨by decide, by decide⟩
theorem pn_Disk_byteAt : (parseMethodDescriptor M_Disk_byteAt.1.desc).map (fun d => d.parameters.length) = some 2 := by decide +kernel
abbrev M_Disk_setByte : mn_M := (⟨"LabelledVolume$Disk", "setByte", "(III)V"⟩, prog_2_method_9_code, 4, (Option.none : Option Jvm.ClassFile.FieldType), [])
theorem mw_Disk_setByte : mn_W M_Disk_setByte := Or.inl ⟨gw_192, rfl⟩
theorem pl_Disk_setByte : plainFor M_Disk_setByte.1 = true := by decide +kernel
theorem nh_Disk_setByte : mn_nh M_Disk_setByte.1 := ⟨by decide, by decide⟩
theorem pn_Disk_setByte : (parseMethodDescriptor M_Disk_setByte.1.desc).map (fun d => d.parameters.length) = some 3 := by decide +kernel
abbrev M_Disk_nameAt : mn_M := (⟨"LabelledVolume$Disk", "nameAt", "(II)I"⟩, prog_2_method_10_code, 3, (Option.some Jvm.ClassFile.FieldType.int), [])
theorem mw_Disk_nameAt : mn_W M_Disk_nameAt := Or.inl ⟨gw_422, rfl⟩
theorem pl_Disk_nameAt : plainFor M_Disk_nameAt.1 = true := by decide +kernel
theorem nh_Disk_nameAt : mn_nh M_Disk_nameAt.1 := ⟨by decide, by decide⟩
theorem pn_Disk_nameAt : (parseMethodDescriptor M_Disk_nameAt.1.desc).map (fun d => d.parameters.length) = some 2 := by decide +kernel
abbrev M_Disk_setName : mn_M := (⟨"LabelledVolume$Disk", "setName", "(III)V"⟩, prog_2_method_11_code, 4, (Option.none : Option Jvm.ClassFile.FieldType), [])
theorem mw_Disk_setName : mn_W M_Disk_setName := Or.inl ⟨gw_188, rfl⟩
theorem pl_Disk_setName : plainFor M_Disk_setName.1 = true := by decide +kernel
theorem nh_Disk_setName : mn_nh M_Disk_setName.1 := ⟨by decide, by decide⟩
theorem pn_Disk_setName : (parseMethodDescriptor M_Disk_setName.1.desc).map (fun d => d.parameters.length) = some 3 := by decide +kernel
abbrev M_Disk_looksLike : mn_M := (⟨"LabelledVolume$Disk", "looksLike", "(III)Z"⟩, prog_2_method_12_code, 5, (Option.some Jvm.ClassFile.FieldType.boolean), [])
theorem mw_Disk_looksLike : mn_W M_Disk_looksLike := Or.inl ⟨gw_660, rfl⟩
theorem pl_Disk_looksLike : plainFor M_Disk_looksLike.1 = true := by decide +kernel
theorem nh_Disk_looksLike : mn_nh M_Disk_looksLike.1 := ⟨by decide, by decide⟩
theorem pn_Disk_looksLike : (parseMethodDescriptor M_Disk_looksLike.1.desc).map (fun d => d.parameters.length) = some 3 := by decide +kernel
abbrev M_Disk_search : mn_M := (⟨"LabelledVolume$Disk", "search", "(II)I"⟩, prog_2_method_13_code, 4, (Option.some Jvm.ClassFile.FieldType.int), [])
theorem mw_Disk_search : mn_W M_Disk_search := Or.inl ⟨gw_352, rfl⟩
theorem pl_Disk_search : plainFor M_Disk_search.1 = true := by decide +kernel
theorem nh_Disk_search : mn_nh M_Disk_search.1 := ⟨by decide, by decide⟩
theorem pn_Disk_search : (parseMethodDescriptor M_Disk_search.1.desc).map (fun d => d.parameters.length) = some 2 := by decide +kernel
abbrev M_Disk_lowestFree : mn_M := (⟨"LabelledVolume$Disk", "lowestFree", "()I"⟩, prog_2_method_14_code, 2, (Option.some Jvm.ClassFile.FieldType.int), [])
theorem mw_Disk_lowestFree : mn_W M_Disk_lowestFree := Or.inl ⟨gw_374, rfl⟩
theorem pl_Disk_lowestFree : plainFor M_Disk_lowestFree.1 = true := by decide +kernel
theorem nh_Disk_lowestFree : mn_nh M_Disk_lowestFree.1 := ⟨by decide, by decide⟩
theorem pn_Disk_lowestFree : (parseMethodDescriptor M_Disk_lowestFree.1.desc).map (fun d => d.parameters.length) = some 0 := by decide +kernel
abbrev M_Disk_lowestUnsaidSerial : mn_M := (⟨"LabelledVolume$Disk", "lowestUnsaidSerial", "()I"⟩, prog_2_method_15_code, 4, (Option.some Jvm.ClassFile.FieldType.int), [])
theorem mw_Disk_lowestUnsaidSerial : mn_W M_Disk_lowestUnsaidSerial := Or.inl ⟨gw_784, rfl⟩
theorem pl_Disk_lowestUnsaidSerial : plainFor M_Disk_lowestUnsaidSerial.1 = true := by decide +kernel
theorem nh_Disk_lowestUnsaidSerial : mn_nh M_Disk_lowestUnsaidSerial.1 := ⟨by decide, by decide⟩
theorem pn_Disk_lowestUnsaidSerial : (parseMethodDescriptor M_Disk_lowestUnsaidSerial.1.desc).map (fun d => d.parameters.length) = some 0 := by decide +kernel
abbrev M_Disk_isDirectory : mn_M := (⟨"LabelledVolume$Disk", "isDirectory", "(I)Z"⟩, prog_2_method_16_code, 3, (Option.some Jvm.ClassFile.FieldType.boolean), [])
theorem mw_Disk_isDirectory : mn_W M_Disk_isDirectory := Or.inl ⟨gw_434, rfl⟩
theorem pl_Disk_isDirectory : plainFor M_Disk_isDirectory.1 = true := by decide +kernel
theorem nh_Disk_isDirectory : mn_nh M_Disk_isDirectory.1 := ⟨by decide, by decide⟩
theorem pn_Disk_isDirectory : (parseMethodDescriptor M_Disk_isDirectory.1.desc).map (fun d => d.parameters.length) = some 1 := by decide +kernel
abbrev M_Disk_lengthUpTo : mn_M := (⟨"LabelledVolume$Disk", "lengthUpTo", "(I)I"⟩, prog_2_method_17_code, 3, (Option.some Jvm.ClassFile.FieldType.int), [])
theorem mw_Disk_lengthUpTo : mn_W M_Disk_lengthUpTo := Or.inl ⟨gw_879, rfl⟩
theorem pl_Disk_lengthUpTo : plainFor M_Disk_lengthUpTo.1 = true := by decide +kernel
theorem nh_Disk_lengthUpTo : mn_nh M_Disk_lengthUpTo.1 := ⟨by decide, by decide⟩
theorem pn_Disk_lengthUpTo : (parseMethodDescriptor M_Disk_lengthUpTo.1.desc).map (fun d => d.parameters.length) = some 1 := by decide +kernel
abbrev M_Disk_entriesIn : mn_M := (⟨"LabelledVolume$Disk", "entriesIn", "(I)I"⟩, prog_2_method_18_code, 2, (Option.some Jvm.ClassFile.FieldType.int), [])
theorem mw_Disk_entriesIn : mn_W M_Disk_entriesIn := Or.inl ⟨gw_402, rfl⟩
theorem pl_Disk_entriesIn : plainFor M_Disk_entriesIn.1 = true := by decide +kernel
theorem nh_Disk_entriesIn : mn_nh M_Disk_entriesIn.1 := ⟨by decide, by decide⟩
theorem pn_Disk_entriesIn : (parseMethodDescriptor M_Disk_entriesIn.1.desc).map (fun d => d.parameters.length) = some 1 := by decide +kernel
abbrev M_Disk_takesEntryBehind : mn_M := (⟨"LabelledVolume$Disk", "takesEntryBehind", "(I)Z"⟩, prog_2_method_19_code, 2, (Option.some Jvm.ClassFile.FieldType.boolean), [])
theorem mw_Disk_takesEntryBehind : mn_W M_Disk_takesEntryBehind := Or.inl ⟨gw_467, rfl⟩
theorem pl_Disk_takesEntryBehind : plainFor M_Disk_takesEntryBehind.1 = true := by decide +kernel
theorem nh_Disk_takesEntryBehind : mn_nh M_Disk_takesEntryBehind.1 := ⟨by decide, by decide⟩
theorem pn_Disk_takesEntryBehind : (parseMethodDescriptor M_Disk_takesEntryBehind.1.desc).map (fun d => d.parameters.length) = some 1 := by decide +kernel
abbrev M_Disk_erase : mn_M := (⟨"LabelledVolume$Disk", "erase", "(I)V"⟩, prog_2_method_20_code, 3, (Option.none : Option Jvm.ClassFile.FieldType), [])
theorem mw_Disk_erase : mn_W M_Disk_erase := Or.inl ⟨gw_176, rfl⟩
theorem pl_Disk_erase : plainFor M_Disk_erase.1 = true := by decide +kernel
theorem nh_Disk_erase : mn_nh M_Disk_erase.1 := ⟨by decide, by decide⟩
theorem pn_Disk_erase : (parseMethodDescriptor M_Disk_erase.1.desc).map (fun d => d.parameters.length) = some 1 := by decide +kernel
abbrev M_Disk_makeLeader : mn_M := (⟨"LabelledVolume$Disk", "makeLeader", "(IIII)V"⟩, prog_2_method_21_code, 5, (Option.none : Option Jvm.ClassFile.FieldType), [])
theorem mw_Disk_makeLeader : mn_W M_Disk_makeLeader := Or.inl ⟨gw_184, rfl⟩
theorem pl_Disk_makeLeader : plainFor M_Disk_makeLeader.1 = true := by decide +kernel
theorem nh_Disk_makeLeader : mn_nh M_Disk_makeLeader.1 := ⟨by decide, by decide⟩
theorem pn_Disk_makeLeader : (parseMethodDescriptor M_Disk_makeLeader.1.desc).map (fun d => d.parameters.length) = some 4 := by decide +kernel
abbrev M_Disk_makePageBehind : mn_M := (⟨"LabelledVolume$Disk", "makePageBehind", "(III)V"⟩, prog_2_method_22_code, 4, (Option.none : Option Jvm.ClassFile.FieldType), [])
theorem mw_Disk_makePageBehind : mn_W M_Disk_makePageBehind := Or.inl ⟨gw_196, rfl⟩
theorem pl_Disk_makePageBehind : plainFor M_Disk_makePageBehind.1 = true := by decide +kernel
theorem nh_Disk_makePageBehind : mn_nh M_Disk_makePageBehind.1 := ⟨by decide, by decide⟩
theorem pn_Disk_makePageBehind : (parseMethodDescriptor M_Disk_makePageBehind.1.desc).map (fun d => d.parameters.length) = some 3 := by decide +kernel
abbrev M_Disk_endFileAt : mn_M := (⟨"LabelledVolume$Disk", "endFileAt", "(II)V"⟩, prog_2_method_23_code, 6, (Option.none : Option Jvm.ClassFile.FieldType), [])
theorem mw_Disk_endFileAt : mn_W M_Disk_endFileAt := Or.inl ⟨gw_947, rfl⟩
theorem pl_Disk_endFileAt : plainFor M_Disk_endFileAt.1 = true := by decide +kernel
theorem nh_Disk_endFileAt : mn_nh M_Disk_endFileAt.1 := ⟨by decide, by decide⟩
theorem pn_Disk_endFileAt : (parseMethodDescriptor M_Disk_endFileAt.1.desc).map (fun d => d.parameters.length) = some 2 := by decide +kernel
abbrev M_Disk_putEntry : mn_M := (⟨"LabelledVolume$Disk", "putEntry", "(III)V"⟩, prog_2_method_24_code, 4, (Option.none : Option Jvm.ClassFile.FieldType), [])
theorem mw_Disk_putEntry : mn_W M_Disk_putEntry := Or.inl ⟨gw_472, rfl⟩
theorem pl_Disk_putEntry : plainFor M_Disk_putEntry.1 = true := by decide +kernel
theorem nh_Disk_putEntry : mn_nh M_Disk_putEntry.1 := ⟨by decide, by decide⟩
theorem pn_Disk_putEntry : (parseMethodDescriptor M_Disk_putEntry.1.desc).map (fun d => d.parameters.length) = some 3 := by decide +kernel
abbrev M_Disk_makeHole : mn_M := (⟨"LabelledVolume$Disk", "makeHole", "(II)V"⟩, prog_2_method_25_code, 4, (Option.none : Option Jvm.ClassFile.FieldType), [])
theorem mw_Disk_makeHole : mn_W M_Disk_makeHole := Or.inl ⟨gw_430, rfl⟩
theorem pl_Disk_makeHole : plainFor M_Disk_makeHole.1 = true := by decide +kernel
theorem nh_Disk_makeHole : mn_nh M_Disk_makeHole.1 := ⟨by decide, by decide⟩
theorem pn_Disk_makeHole : (parseMethodDescriptor M_Disk_makeHole.1.desc).map (fun d => d.parameters.length) = some 2 := by decide +kernel
abbrev M_Disk_setMapBits : mn_M := (⟨"LabelledVolume$Disk", "setMapBits", "(I)V"⟩, prog_2_method_26_code, 5, (Option.none : Option Jvm.ClassFile.FieldType), [])
theorem mw_Disk_setMapBits : mn_W M_Disk_setMapBits := Or.inl ⟨gw_204, rfl⟩
theorem pl_Disk_setMapBits : plainFor M_Disk_setMapBits.1 = true := by decide +kernel
theorem nh_Disk_setMapBits : mn_nh M_Disk_setMapBits.1 := ⟨by decide, by decide⟩
theorem pn_Disk_setMapBits : (parseMethodDescriptor M_Disk_setMapBits.1.desc).map (fun d => d.parameters.length) = some 1 := by decide +kernel
abbrev M_Disk_makeUnreadable : mn_M := (⟨"LabelledVolume$Disk", "makeUnreadable", "(I)V"⟩, prog_2_method_27_code, 2, (Option.none : Option Jvm.ClassFile.FieldType), [])
theorem mw_Disk_makeUnreadable : mn_W M_Disk_makeUnreadable := Or.inl ⟨gw_516, rfl⟩
theorem pl_Disk_makeUnreadable : plainFor M_Disk_makeUnreadable.1 = true := by decide +kernel
theorem nh_Disk_makeUnreadable : mn_nh M_Disk_makeUnreadable.1 := ⟨by decide, by decide⟩
theorem pn_Disk_makeUnreadable : (parseMethodDescriptor M_Disk_makeUnreadable.1.desc).map (fun d => d.parameters.length) = some 1 := by decide +kernel
abbrev M_Disk_copySector : mn_M := (⟨"LabelledVolume$Disk", "copySector", "(II)V"⟩, prog_2_method_28_code, 4, (Option.none : Option Jvm.ClassFile.FieldType), [])
theorem mw_Disk_copySector : mn_W M_Disk_copySector := Or.inl ⟨gw_526, rfl⟩
theorem pl_Disk_copySector : plainFor M_Disk_copySector.1 = true := by decide +kernel
theorem nh_Disk_copySector : mn_nh M_Disk_copySector.1 := ⟨by decide, by decide⟩
theorem pn_Disk_copySector : (parseMethodDescriptor M_Disk_copySector.1.desc).map (fun d => d.parameters.length) = some 2 := by decide +kernel
abbrev M_Disk_countMiss : mn_M := (⟨"LabelledVolume$Disk", "countMiss", "()V"⟩, prog_2_method_29_code, 1, (Option.none : Option Jvm.ClassFile.FieldType), [])
theorem mw_Disk_countMiss : mn_W M_Disk_countMiss := Or.inl ⟨gw_780, rfl⟩
theorem pl_Disk_countMiss : plainFor M_Disk_countMiss.1 = true := by decide +kernel
theorem nh_Disk_countMiss : mn_nh M_Disk_countMiss.1 := ⟨by decide, by decide⟩
theorem pn_Disk_countMiss : (parseMethodDescriptor M_Disk_countMiss.1.desc).map (fun d => d.parameters.length) = some 0 := by decide +kernel
abbrev M_Disk_missesCounted : mn_M := (⟨"LabelledVolume$Disk", "missesCounted", "()I"⟩, prog_2_method_30_code, 1, (Option.some Jvm.ClassFile.FieldType.int), [])
theorem mw_Disk_missesCounted : mn_W M_Disk_missesCounted := Or.inl ⟨gw_544, rfl⟩
theorem pl_Disk_missesCounted : plainFor M_Disk_missesCounted.1 = true := by decide +kernel
theorem nh_Disk_missesCounted : mn_nh M_Disk_missesCounted.1 := ⟨by decide, by decide⟩
theorem pn_Disk_missesCounted : (parseMethodDescriptor M_Disk_missesCounted.1.desc).map (fun d => d.parameters.length) = some 0 := by decide +kernel
abbrev M_Disk_writesCounted : mn_M := (⟨"LabelledVolume$Disk", "writesCounted", "()I"⟩, prog_2_method_31_code, 1, (Option.some Jvm.ClassFile.FieldType.int), [])
theorem mw_Disk_writesCounted : mn_W M_Disk_writesCounted := Or.inl ⟨gw_548, rfl⟩
theorem pl_Disk_writesCounted : plainFor M_Disk_writesCounted.1 = true := by decide +kernel
theorem nh_Disk_writesCounted : mn_nh M_Disk_writesCounted.1 := ⟨by decide, by decide⟩
theorem pn_Disk_writesCounted : (parseMethodDescriptor M_Disk_writesCounted.1.desc).map (fun d => d.parameters.length) = some 0 := by decide +kernel
abbrev M_Disk_countFree : mn_M := (⟨"LabelledVolume$Disk", "countFree", "()I"⟩, prog_2_method_32_code, 3, (Option.some Jvm.ClassFile.FieldType.int), [])
theorem mw_Disk_countFree : mn_W M_Disk_countFree := Or.inl ⟨gw_552, rfl⟩
theorem pl_Disk_countFree : plainFor M_Disk_countFree.1 = true := by decide +kernel
theorem nh_Disk_countFree : mn_nh M_Disk_countFree.1 := ⟨by decide, by decide⟩
theorem pn_Disk_countFree : (parseMethodDescriptor M_Disk_countFree.1.desc).map (fun d => d.parameters.length) = some 0 := by decide +kernel
abbrev M_Disk_countUnreadable : mn_M := (⟨"LabelledVolume$Disk", "countUnreadable", "()I"⟩, prog_2_method_33_code, 3, (Option.some Jvm.ClassFile.FieldType.int), [])
theorem mw_Disk_countUnreadable : mn_W M_Disk_countUnreadable := Or.inl ⟨gw_556, rfl⟩
theorem pl_Disk_countUnreadable : plainFor M_Disk_countUnreadable.1 = true := by decide +kernel
theorem nh_Disk_countUnreadable : mn_nh M_Disk_countUnreadable.1 := ⟨by decide, by decide⟩
theorem pn_Disk_countUnreadable : (parseMethodDescriptor M_Disk_countUnreadable.1.desc).map (fun d => d.parameters.length) = some 0 := by decide +kernel
abbrev M_Disk_hasPower : mn_M := (⟨"LabelledVolume$Disk", "hasPower", "()Z"⟩, prog_2_method_34_code, 1, (Option.some Jvm.ClassFile.FieldType.boolean), [])
theorem mw_Disk_hasPower : mn_W M_Disk_hasPower := Or.inl ⟨gw_560, rfl⟩
theorem pl_Disk_hasPower : plainFor M_Disk_hasPower.1 = true := by decide +kernel
theorem nh_Disk_hasPower : mn_nh M_Disk_hasPower.1 := ⟨by decide, by decide⟩
theorem pn_Disk_hasPower : (parseMethodDescriptor M_Disk_hasPower.1.desc).map (fun d => d.parameters.length) = some 0 := by decide +kernel
abbrev M_Disk_limitWrites : mn_M := (⟨"LabelledVolume$Disk", "limitWrites", "(I)V"⟩, prog_2_method_35_code, 2, (Option.none : Option Jvm.ClassFile.FieldType), [])
theorem mw_Disk_limitWrites : mn_W M_Disk_limitWrites := Or.inl ⟨gw_990, rfl⟩
theorem pl_Disk_limitWrites : plainFor M_Disk_limitWrites.1 = true := by decide +kernel
theorem nh_Disk_limitWrites : mn_nh M_Disk_limitWrites.1 := ⟨by decide, by decide⟩
theorem pn_Disk_limitWrites : (parseMethodDescriptor M_Disk_limitWrites.1.desc).map (fun d => d.parameters.length) = some 1 := by decide +kernel
abbrev M_Disk_restorePower : mn_M := (⟨"LabelledVolume$Disk", "restorePower", "()V"⟩, prog_2_method_36_code, 1, (Option.none : Option Jvm.ClassFile.FieldType), [])
theorem mw_Disk_restorePower : mn_W M_Disk_restorePower := Or.inl ⟨gw_313, rfl⟩
theorem pl_Disk_restorePower : plainFor M_Disk_restorePower.1 = true := by decide +kernel
theorem nh_Disk_restorePower : mn_nh M_Disk_restorePower.1 := ⟨by decide, by decide⟩
theorem pn_Disk_restorePower : (parseMethodDescriptor M_Disk_restorePower.1.desc).map (fun d => d.parameters.length) = some 0 := by decide +kernel
abbrev M_Disk_spendWrite : mn_M := (⟨"LabelledVolume$Disk", "spendWrite", "()V"⟩, prog_2_method_37_code, 1, (Option.none : Option Jvm.ClassFile.FieldType), [])
theorem mw_Disk_spendWrite : mn_W M_Disk_spendWrite := Or.inl ⟨gw_793, rfl⟩
theorem pl_Disk_spendWrite : plainFor M_Disk_spendWrite.1 = true := by decide +kernel
theorem nh_Disk_spendWrite : mn_nh M_Disk_spendWrite.1 := ⟨by decide, by decide⟩
theorem pn_Disk_spendWrite : (parseMethodDescriptor M_Disk_spendWrite.1.desc).map (fun d => d.parameters.length) = some 0 := by decide +kernel
abbrev M_Disk_keepEarlier : mn_M := (⟨"LabelledVolume$Disk", "keepEarlier", "()V"⟩, prog_2_method_38_code, 1, (Option.none : Option Jvm.ClassFile.FieldType), [])
theorem mw_Disk_keepEarlier : mn_W M_Disk_keepEarlier := Or.inl ⟨gw_333, rfl⟩
theorem pl_Disk_keepEarlier : plainFor M_Disk_keepEarlier.1 = true := by decide +kernel
theorem nh_Disk_keepEarlier : mn_nh M_Disk_keepEarlier.1 := ⟨by decide, by decide⟩
theorem pn_Disk_keepEarlier : (parseMethodDescriptor M_Disk_keepEarlier.1.desc).map (fun d => d.parameters.length) = some 0 := by decide +kernel
abbrev M_Disk_countChanged : mn_M := (⟨"LabelledVolume$Disk", "countChanged", "()I"⟩, prog_2_method_39_code, 3, (Option.some Jvm.ClassFile.FieldType.int), [])
theorem mw_Disk_countChanged : mn_W M_Disk_countChanged := Or.inl ⟨gw_490, rfl⟩
theorem pl_Disk_countChanged : plainFor M_Disk_countChanged.1 = true := by decide +kernel
theorem nh_Disk_countChanged : mn_nh M_Disk_countChanged.1 := ⟨by decide, by decide⟩
theorem pn_Disk_countChanged : (parseMethodDescriptor M_Disk_countChanged.1.desc).map (fun d => d.parameters.length) = some 0 := by decide +kernel
abbrev M_Disk_hasChanged : mn_M := (⟨"LabelledVolume$Disk", "hasChanged", "(I)Z"⟩, prog_2_method_40_code, 3, (Option.some Jvm.ClassFile.FieldType.boolean), [])
theorem mw_Disk_hasChanged : mn_W M_Disk_hasChanged := Or.inl ⟨gw_494, rfl⟩
theorem pl_Disk_hasChanged : plainFor M_Disk_hasChanged.1 = true := by decide +kernel
theorem nh_Disk_hasChanged : mn_nh M_Disk_hasChanged.1 := ⟨by decide, by decide⟩
theorem pn_Disk_hasChanged : (parseMethodDescriptor M_Disk_hasChanged.1.desc).map (fun d => d.parameters.length) = some 1 := by decide +kernel
abbrev M_Walk_init : mn_M := (⟨"LabelledVolume$EntryWalk", "<init>", "(LLabelledVolume$Disk;LLabelledVolume$Finder;)V"⟩, prog_3_method_1_code, 3, (Option.none : Option Jvm.ClassFile.FieldType), [])
theorem mw_Walk_init : mn_W M_Walk_init := Or.inl ⟨gw_213, rfl⟩
theorem pl_Walk_init : plainFor M_Walk_init.1 = true := by decide +kernel
theorem nh_Walk_init : mn_nh M_Walk_init.1 := ⟨by decide, by decide⟩
theorem pn_Walk_init : (parseMethodDescriptor M_Walk_init.1.desc).map (fun d => d.parameters.length) = some 2 := by decide +kernel
abbrev M_Walk_start : mn_M := (⟨"LabelledVolume$EntryWalk", "start", "(I)V"⟩, prog_3_method_2_code, 2, (Option.none : Option Jvm.ClassFile.FieldType), [])
theorem mw_Walk_start : mn_W M_Walk_start := Or.inl ⟨gw_700, rfl⟩
theorem pl_Walk_start : plainFor M_Walk_start.1 = true := by decide +kernel
theorem nh_Walk_start : mn_nh M_Walk_start.1 := ⟨by decide, by decide⟩
theorem pn_Walk_start : (parseMethodDescriptor M_Walk_start.1.desc).map (fun d => d.parameters.length) = some 1 := by decide +kernel
abbrev M_Walk_step : mn_M := (⟨"LabelledVolume$EntryWalk", "step", "()Z"⟩, prog_3_method_3_code, 2, (Option.some Jvm.ClassFile.FieldType.boolean), [])
theorem mw_Walk_step : mn_W M_Walk_step := Or.inl ⟨gw_704, rfl⟩
theorem pl_Walk_step : plainFor M_Walk_step.1 = true := by decide +kernel
theorem nh_Walk_step : mn_nh M_Walk_step.1 := ⟨by decide, by decide⟩
theorem pn_Walk_step : (parseMethodDescriptor M_Walk_step.1.desc).map (fun d => d.parameters.length) = some 0 := by decide +kernel
abbrev M_Walk_seekName : mn_M := (⟨"LabelledVolume$EntryWalk", "seekName", "(II)Z"⟩, prog_3_method_4_code, 4, (Option.some Jvm.ClassFile.FieldType.boolean), [])
theorem mw_Walk_seekName : mn_W M_Walk_seekName := Or.inl ⟨gw_696, rfl⟩
theorem pl_Walk_seekName : plainFor M_Walk_seekName.1 = true := by decide +kernel
theorem nh_Walk_seekName : mn_nh M_Walk_seekName.1 := ⟨by decide, by decide⟩
theorem pn_Walk_seekName : (parseMethodDescriptor M_Walk_seekName.1.desc).map (fun d => d.parameters.length) = some 2 := by decide +kernel
abbrev M_Walk_seekUsed : mn_M := (⟨"LabelledVolume$EntryWalk", "seekUsed", "(I)Z"⟩, prog_3_method_5_code, 3, (Option.some Jvm.ClassFile.FieldType.boolean), [])
theorem mw_Walk_seekUsed : mn_W M_Walk_seekUsed := Or.inl ⟨gw_958, rfl⟩
theorem pl_Walk_seekUsed : plainFor M_Walk_seekUsed.1 = true := by decide +kernel
theorem nh_Walk_seekUsed : mn_nh M_Walk_seekUsed.1 := ⟨by decide, by decide⟩
theorem pn_Walk_seekUsed : (parseMethodDescriptor M_Walk_seekUsed.1.desc).map (fun d => d.parameters.length) = some 1 := by decide +kernel
abbrev M_Walk_seekIndex : mn_M := (⟨"LabelledVolume$EntryWalk", "seekIndex", "(II)Z"⟩, prog_3_method_6_code, 4, (Option.some Jvm.ClassFile.FieldType.boolean), [])
theorem mw_Walk_seekIndex : mn_W M_Walk_seekIndex := Or.inl ⟨gw_978, rfl⟩
theorem pl_Walk_seekIndex : plainFor M_Walk_seekIndex.1 = true := by decide +kernel
theorem nh_Walk_seekIndex : mn_nh M_Walk_seekIndex.1 := ⟨by decide, by decide⟩
theorem pn_Walk_seekIndex : (parseMethodDescriptor M_Walk_seekIndex.1.desc).map (fun d => d.parameters.length) = some 2 := by decide +kernel
abbrev M_Walk_keepFirstHole : mn_M := (⟨"LabelledVolume$EntryWalk", "keepFirstHole", "()V"⟩, prog_3_method_7_code, 1, (Option.none : Option Jvm.ClassFile.FieldType), [])
theorem mw_Walk_keepFirstHole : mn_W M_Walk_keepFirstHole := Or.inl ⟨gw_742, rfl⟩
theorem pl_Walk_keepFirstHole : plainFor M_Walk_keepFirstHole.1 = true := by decide +kernel
theorem nh_Walk_keepFirstHole : mn_nh M_Walk_keepFirstHole.1 := ⟨by decide, by decide⟩
theorem pn_Walk_keepFirstHole : (parseMethodDescriptor M_Walk_keepFirstHole.1.desc).map (fun d => d.parameters.length) = some 0 := by decide +kernel
abbrev M_Walk_sectorHere : mn_M := (⟨"LabelledVolume$EntryWalk", "sectorHere", "()I"⟩, prog_3_method_8_code, 1, (Option.some Jvm.ClassFile.FieldType.int), [])
theorem mw_Walk_sectorHere : mn_W M_Walk_sectorHere := Or.inl ⟨gw_804, rfl⟩
theorem pl_Walk_sectorHere : plainFor M_Walk_sectorHere.1 = true := by decide +kernel
theorem nh_Walk_sectorHere : mn_nh M_Walk_sectorHere.1 := ⟨by decide, by decide⟩
theorem pn_Walk_sectorHere : (parseMethodDescriptor M_Walk_sectorHere.1.desc).map (fun d => d.parameters.length) = some 0 := by decide +kernel
abbrev M_Walk_offsetHere : mn_M := (⟨"LabelledVolume$EntryWalk", "offsetHere", "()I"⟩, prog_3_method_9_code, 1, (Option.some Jvm.ClassFile.FieldType.int), [])
theorem mw_Walk_offsetHere : mn_W M_Walk_offsetHere := Or.inl ⟨gw_737, rfl⟩
theorem pl_Walk_offsetHere : plainFor M_Walk_offsetHere.1 = true := by decide +kernel
theorem nh_Walk_offsetHere : mn_nh M_Walk_offsetHere.1 := ⟨by decide, by decide⟩
theorem pn_Walk_offsetHere : (parseMethodDescriptor M_Walk_offsetHere.1.desc).map (fun d => d.parameters.length) = some 0 := by decide +kernel
abbrev M_Walk_serialHere : mn_M := (⟨"LabelledVolume$EntryWalk", "serialHere", "()I"⟩, prog_3_method_10_code, 1, (Option.some Jvm.ClassFile.FieldType.int), [])
theorem mw_Walk_serialHere : mn_W M_Walk_serialHere := Or.inl ⟨gw_733, rfl⟩
theorem pl_Walk_serialHere : plainFor M_Walk_serialHere.1 = true := by decide +kernel
theorem nh_Walk_serialHere : mn_nh M_Walk_serialHere.1 := ⟨by decide, by decide⟩
theorem pn_Walk_serialHere : (parseMethodDescriptor M_Walk_serialHere.1.desc).map (fun d => d.parameters.length) = some 0 := by decide +kernel
abbrev M_Walk_foundHole : mn_M := (⟨"LabelledVolume$EntryWalk", "foundHole", "()Z"⟩, prog_3_method_11_code, 1, (Option.some Jvm.ClassFile.FieldType.boolean), [])
theorem mw_Walk_foundHole : mn_W M_Walk_foundHole := Or.inl ⟨gw_751, rfl⟩
theorem pl_Walk_foundHole : plainFor M_Walk_foundHole.1 = true := by decide +kernel
theorem nh_Walk_foundHole : mn_nh M_Walk_foundHole.1 := ⟨by decide, by decide⟩
theorem pn_Walk_foundHole : (parseMethodDescriptor M_Walk_foundHole.1.desc).map (fun d => d.parameters.length) = some 0 := by decide +kernel
abbrev M_Walk_holeSector : mn_M := (⟨"LabelledVolume$EntryWalk", "holeSector", "()I"⟩, prog_3_method_12_code, 1, (Option.some Jvm.ClassFile.FieldType.int), [])
theorem mw_Walk_holeSector : mn_W M_Walk_holeSector := Or.inl ⟨gw_809, rfl⟩
theorem pl_Walk_holeSector : plainFor M_Walk_holeSector.1 = true := by decide +kernel
theorem nh_Walk_holeSector : mn_nh M_Walk_holeSector.1 := ⟨by decide, by decide⟩
theorem pn_Walk_holeSector : (parseMethodDescriptor M_Walk_holeSector.1.desc).map (fun d => d.parameters.length) = some 0 := by decide +kernel
abbrev M_Walk_holeOffset : mn_M := (⟨"LabelledVolume$EntryWalk", "holeOffset", "()I"⟩, prog_3_method_13_code, 1, (Option.some Jvm.ClassFile.FieldType.int), [])
theorem mw_Walk_holeOffset : mn_W M_Walk_holeOffset := Or.inl ⟨gw_813, rfl⟩
theorem pl_Walk_holeOffset : plainFor M_Walk_holeOffset.1 = true := by decide +kernel
theorem nh_Walk_holeOffset : mn_nh M_Walk_holeOffset.1 := ⟨by decide, by decide⟩
theorem pn_Walk_holeOffset : (parseMethodDescriptor M_Walk_holeOffset.1.desc).map (fun d => d.parameters.length) = some 0 := by decide +kernel
abbrev M_Walk_needsPage : mn_M := (⟨"LabelledVolume$EntryWalk", "needsPage", "()Z"⟩, prog_3_method_14_code, 1, (Option.some Jvm.ClassFile.FieldType.boolean), [])
theorem mw_Walk_needsPage : mn_W M_Walk_needsPage := Or.inl ⟨gw_747, rfl⟩
theorem pl_Walk_needsPage : plainFor M_Walk_needsPage.1 = true := by decide +kernel
theorem nh_Walk_needsPage : mn_nh M_Walk_needsPage.1 := ⟨by decide, by decide⟩
theorem pn_Walk_needsPage : (parseMethodDescriptor M_Walk_needsPage.1.desc).map (fun d => d.parameters.length) = some 0 := by decide +kernel
abbrev M_Finder_init : mn_M := (⟨"LabelledVolume$Finder", "<init>", "(LLabelledVolume$Disk;)V"⟩, prog_4_method_1_code, 3, (Option.none : Option Jvm.ClassFile.FieldType), [])
theorem mw_Finder_init : mn_W M_Finder_init := Or.inl ⟨gw_160, rfl⟩
theorem pl_Finder_init : plainFor M_Finder_init.1 = true := by decide +kernel
theorem nh_Finder_init : mn_nh M_Finder_init.1 := ⟨by decide, by decide⟩
theorem pn_Finder_init : (parseMethodDescriptor M_Finder_init.1.desc).map (fun d => d.parameters.length) = some 1 := by decide +kernel
abbrev M_Finder_remember : mn_M := (⟨"LabelledVolume$Finder", "remember", "(II)V"⟩, prog_4_method_2_code, 3, (Option.none : Option Jvm.ClassFile.FieldType), [])
theorem mw_Finder_remember : mn_W M_Finder_remember := Or.inl ⟨gw_325, rfl⟩
theorem pl_Finder_remember : plainFor M_Finder_remember.1 = true := by decide +kernel
theorem nh_Finder_remember : mn_nh M_Finder_remember.1 := ⟨by decide, by decide⟩
theorem pn_Finder_remember : (parseMethodDescriptor M_Finder_remember.1.desc).map (fun d => d.parameters.length) = some 2 := by decide +kernel
abbrev M_Finder_forget : mn_M := (⟨"LabelledVolume$Finder", "forget", "(I)V"⟩, prog_4_method_3_code, 2, (Option.none : Option Jvm.ClassFile.FieldType), [])
theorem mw_Finder_forget : mn_W M_Finder_forget := Or.inl ⟨gw_321, rfl⟩
theorem pl_Finder_forget : plainFor M_Finder_forget.1 = true := by decide +kernel
theorem nh_Finder_forget : mn_nh M_Finder_forget.1 := ⟨by decide, by decide⟩
theorem pn_Finder_forget : (parseMethodDescriptor M_Finder_forget.1.desc).map (fun d => d.parameters.length) = some 1 := by decide +kernel
abbrev M_Finder_forgetAll : mn_M := (⟨"LabelledVolume$Finder", "forgetAll", "()V"⟩, prog_4_method_4_code, 2, (Option.none : Option Jvm.ClassFile.FieldType), [])
theorem mw_Finder_forgetAll : mn_W M_Finder_forgetAll := Or.inl ⟨gw_317, rfl⟩
theorem pl_Finder_forgetAll : plainFor M_Finder_forgetAll.1 = true := by decide +kernel
theorem nh_Finder_forgetAll : mn_nh M_Finder_forgetAll.1 := ⟨by decide, by decide⟩
theorem pn_Finder_forgetAll : (parseMethodDescriptor M_Finder_forgetAll.1.desc).map (fun d => d.parameters.length) = some 0 := by decide +kernel
abbrev M_Finder_leaderOf : mn_M := (⟨"LabelledVolume$Finder", "leaderOf", "(I)I"⟩, prog_4_method_5_code, 3, (Option.some Jvm.ClassFile.FieldType.int), [])
theorem mw_Finder_leaderOf : mn_W M_Finder_leaderOf := Or.inl ⟨gw_656, rfl⟩
theorem pl_Finder_leaderOf : plainFor M_Finder_leaderOf.1 = true := by decide +kernel
theorem nh_Finder_leaderOf : mn_nh M_Finder_leaderOf.1 := ⟨by decide, by decide⟩
theorem pn_Finder_leaderOf : (parseMethodDescriptor M_Finder_leaderOf.1.desc).map (fun d => d.parameters.length) = some 1 := by decide +kernel
abbrev M_Finder_follow : mn_M := (⟨"LabelledVolume$Finder", "follow", "(II)I"⟩, prog_4_method_6_code, 6, (Option.some Jvm.ClassFile.FieldType.int), [])
theorem mw_Finder_follow : mn_W M_Finder_follow := Or.inl ⟨gw_710, rfl⟩
theorem pl_Finder_follow : plainFor M_Finder_follow.1 = true := by decide +kernel
theorem nh_Finder_follow : mn_nh M_Finder_follow.1 := ⟨by decide, by decide⟩
theorem pn_Finder_follow : (parseMethodDescriptor M_Finder_follow.1.desc).map (fun d => d.parameters.length) = some 2 := by decide +kernel
abbrev M_Finder_lastOf : mn_M := (⟨"LabelledVolume$Finder", "lastOf", "(I)I"⟩, prog_4_method_7_code, 5, (Option.some Jvm.ClassFile.FieldType.int), [])
theorem mw_Finder_lastOf : mn_W M_Finder_lastOf := Or.inl ⟨gw_871, rfl⟩
theorem pl_Finder_lastOf : plainFor M_Finder_lastOf.1 = true := by decide +kernel
theorem nh_Finder_lastOf : mn_nh M_Finder_lastOf.1 := ⟨by decide, by decide⟩
theorem pn_Finder_lastOf : (parseMethodDescriptor M_Finder_lastOf.1.desc).map (fun d => d.parameters.length) = some 1 := by decide +kernel
abbrev M_Finder_pageOf : mn_M := (⟨"LabelledVolume$Finder", "pageOf", "(III)I"⟩, prog_4_method_8_code, 6, (Option.some Jvm.ClassFile.FieldType.int), [])
theorem mw_Finder_pageOf : mn_W M_Finder_pageOf := Or.inl ⟨gw_898, rfl⟩
theorem pl_Finder_pageOf : plainFor M_Finder_pageOf.1 = true := by decide +kernel
theorem nh_Finder_pageOf : mn_nh M_Finder_pageOf.1 := ⟨by decide, by decide⟩
theorem pn_Finder_pageOf : (parseMethodDescriptor M_Finder_pageOf.1.desc).map (fun d => d.parameters.length) = some 3 := by decide +kernel
abbrev M_Map_init : mn_M := (⟨"LabelledVolume$FreeMap", "<init>", "(LLabelledVolume$Disk;LLabelledVolume$Finder;)V"⟩, prog_5_method_1_code, 3, (Option.none : Option Jvm.ClassFile.FieldType), [])
theorem mw_Map_init : mn_W M_Map_init := Or.inl ⟨gw_238, rfl⟩
theorem pl_Map_init : plainFor M_Map_init.1 = true := by decide +kernel
theorem nh_Map_init : mn_nh M_Map_init.1 := ⟨by decide, by decide⟩
theorem pn_Map_init : (parseMethodDescriptor M_Map_init.1.desc).map (fun d => d.parameters.length) = some 2 := by decide +kernel
abbrev M_Map_find : mn_M := (⟨"LabelledVolume$FreeMap", "find", "()V"⟩, prog_5_method_2_code, 2, (Option.none : Option Jvm.ClassFile.FieldType), [])
theorem mw_Map_find : mn_W M_Map_find := Or.inl ⟨gw_760, rfl⟩
theorem pl_Map_find : plainFor M_Map_find.1 = true := by decide +kernel
theorem nh_Map_find : mn_nh M_Map_find.1 := ⟨by decide, by decide⟩
theorem pn_Map_find : (parseMethodDescriptor M_Map_find.1.desc).map (fun d => d.parameters.length) = some 0 := by decide +kernel
abbrev M_Map_take : mn_M := (⟨"LabelledVolume$FreeMap", "take", "(I)Z"⟩, prog_5_method_3_code, 3, (Option.some Jvm.ClassFile.FieldType.boolean), [])
theorem mw_Map_take : mn_W M_Map_take := Or.inl ⟨gw_756, rfl⟩
theorem pl_Map_take : plainFor M_Map_take.1 = true := by decide +kernel
theorem nh_Map_take : mn_nh M_Map_take.1 := ⟨by decide, by decide⟩
theorem pn_Map_take : (parseMethodDescriptor M_Map_take.1.desc).map (fun d => d.parameters.length) = some 1 := by decide +kernel
abbrev M_Map_hintsFree : mn_M := (⟨"LabelledVolume$FreeMap", "hintsFree", "(I)Z"⟩, prog_5_method_4_code, 2, (Option.some Jvm.ClassFile.FieldType.boolean), [])
theorem mw_Map_hintsFree : mn_W M_Map_hintsFree := Or.inl ⟨gw_770, rfl⟩
theorem pl_Map_hintsFree : plainFor M_Map_hintsFree.1 = true := by decide +kernel
theorem nh_Map_hintsFree : mn_nh M_Map_hintsFree.1 := ⟨by decide, by decide⟩
theorem pn_Map_hintsFree : (parseMethodDescriptor M_Map_hintsFree.1.desc).map (fun d => d.parameters.length) = some 1 := by decide +kernel
abbrev M_Map_takeOrMiss : mn_M := (⟨"LabelledVolume$FreeMap", "takeOrMiss", "(I)V"⟩, prog_5_method_5_code, 2, (Option.none : Option Jvm.ClassFile.FieldType), [])
theorem mw_Map_takeOrMiss : mn_W M_Map_takeOrMiss := Or.inl ⟨gw_775, rfl⟩
theorem pl_Map_takeOrMiss : plainFor M_Map_takeOrMiss.1 = true := by decide +kernel
theorem nh_Map_takeOrMiss : mn_nh M_Map_takeOrMiss.1 := ⟨by decide, by decide⟩
theorem pn_Map_takeOrMiss : (parseMethodDescriptor M_Map_takeOrMiss.1.desc).map (fun d => d.parameters.length) = some 1 := by decide +kernel
abbrev M_Map_countTaken : mn_M := (⟨"LabelledVolume$FreeMap", "countTaken", "()I"⟩, prog_5_method_6_code, 1, (Option.some Jvm.ClassFile.FieldType.int), [])
theorem mw_Map_countTaken : mn_W M_Map_countTaken := Or.inl ⟨gw_766, rfl⟩
theorem pl_Map_countTaken : plainFor M_Map_countTaken.1 = true := by decide +kernel
theorem nh_Map_countTaken : mn_nh M_Map_countTaken.1 := ⟨by decide, by decide⟩
theorem pn_Map_countTaken : (parseMethodDescriptor M_Map_countTaken.1.desc).map (fun d => d.parameters.length) = some 0 := by decide +kernel
abbrev M_Map_firstTaken : mn_M := (⟨"LabelledVolume$FreeMap", "firstTaken", "()I"⟩, prog_5_method_7_code, 1, (Option.some Jvm.ClassFile.FieldType.int), [])
theorem mw_Map_firstTaken : mn_W M_Map_firstTaken := Or.inl ⟨gw_789, rfl⟩
theorem pl_Map_firstTaken : plainFor M_Map_firstTaken.1 = true := by decide +kernel
theorem nh_Map_firstTaken : mn_nh M_Map_firstTaken.1 := ⟨by decide, by decide⟩
theorem pn_Map_firstTaken : (parseMethodDescriptor M_Map_firstTaken.1.desc).map (fun d => d.parameters.length) = some 0 := by decide +kernel
abbrev M_Map_secondTaken : mn_M := (⟨"LabelledVolume$FreeMap", "secondTaken", "()I"⟩, prog_5_method_8_code, 1, (Option.some Jvm.ClassFile.FieldType.int), [])
theorem mw_Map_secondTaken : mn_W M_Map_secondTaken := Or.inl ⟨gw_819, rfl⟩
theorem pl_Map_secondTaken : plainFor M_Map_secondTaken.1 = true := by decide +kernel
theorem nh_Map_secondTaken : mn_nh M_Map_secondTaken.1 := ⟨by decide, by decide⟩
theorem pn_Map_secondTaken : (parseMethodDescriptor M_Map_secondTaken.1.desc).map (fun d => d.parameters.length) = some 0 := by decide +kernel
abbrev M_Map_release : mn_M := (⟨"LabelledVolume$FreeMap", "release", "(I)V"⟩, prog_5_method_9_code, 2, (Option.none : Option Jvm.ClassFile.FieldType), [])
theorem mw_Map_release : mn_W M_Map_release := Or.inl ⟨gw_942, rfl⟩
theorem pl_Map_release : plainFor M_Map_release.1 = true := by decide +kernel
theorem nh_Map_release : mn_nh M_Map_release.1 := ⟨by decide, by decide⟩
theorem pn_Map_release : (parseMethodDescriptor M_Map_release.1.desc).map (fun d => d.parameters.length) = some 1 := by decide +kernel
abbrev M_Map_update : mn_M := (⟨"LabelledVolume$FreeMap", "update", "()V"⟩, prog_5_method_10_code, 2, (Option.none : Option Jvm.ClassFile.FieldType), [])
theorem mw_Map_update : mn_W M_Map_update := Or.inl ⟨gw_832, rfl⟩
theorem pl_Map_update : plainFor M_Map_update.1 = true := by decide +kernel
theorem nh_Map_update : mn_nh M_Map_update.1 := ⟨by decide, by decide⟩
theorem pn_Map_update : (parseMethodDescriptor M_Map_update.1.desc).map (fun d => d.parameters.length) = some 0 := by decide +kernel
abbrev M_Map_wouldChange : mn_M := (⟨"LabelledVolume$FreeMap", "wouldChange", "()Z"⟩, prog_5_method_11_code, 2, (Option.some Jvm.ClassFile.FieldType.boolean), [])
theorem mw_Map_wouldChange : mn_W M_Map_wouldChange := Or.inl ⟨gw_836, rfl⟩
theorem pl_Map_wouldChange : plainFor M_Map_wouldChange.1 = true := by decide +kernel
theorem nh_Map_wouldChange : mn_nh M_Map_wouldChange.1 := ⟨by decide, by decide⟩
theorem pn_Map_wouldChange : (parseMethodDescriptor M_Map_wouldChange.1.desc).map (fun d => d.parameters.length) = some 0 := by decide +kernel
abbrev M_Map_updatedByte : mn_M := (⟨"LabelledVolume$FreeMap", "updatedByte", "(I)I"⟩, prog_5_method_12_code, 6, (Option.some Jvm.ClassFile.FieldType.int), [])
theorem mw_Map_updatedByte : mn_W M_Map_updatedByte := Or.inl ⟨gw_840, rfl⟩
theorem pl_Map_updatedByte : plainFor M_Map_updatedByte.1 = true := by decide +kernel
theorem nh_Map_updatedByte : mn_nh M_Map_updatedByte.1 := ⟨by decide, by decide⟩
theorem pn_Map_updatedByte : (parseMethodDescriptor M_Map_updatedByte.1.desc).map (fun d => d.parameters.length) = some 1 := by decide +kernel
abbrev M_Scav_init : mn_M := (⟨"LabelledVolume$Scavenger", "<init>", "(LLabelledVolume$Disk;)V"⟩, prog_6_method_1_code, 2, (Option.none : Option Jvm.ClassFile.FieldType), [])
theorem mw_Scav_init : mn_W M_Scav_init := Or.inl ⟨gw_266, rfl⟩
theorem pl_Scav_init : plainFor M_Scav_init.1 = true := by decide +kernel
theorem nh_Scav_init : mn_nh M_Scav_init.1 := ⟨by decide, by decide⟩
theorem pn_Scav_init : (parseMethodDescriptor M_Scav_init.1.desc).map (fun d => d.parameters.length) = some 1 := by decide +kernel
abbrev M_Scav_result : mn_M := (⟨"LabelledVolume$Scavenger", "result", "(I)I"⟩, prog_6_method_2_code, 2, (Option.some Jvm.ClassFile.FieldType.int), [])
theorem mw_Scav_result : mn_W M_Scav_result := Or.inl ⟨gw_498, rfl⟩
theorem pl_Scav_result : plainFor M_Scav_result.1 = true := by decide +kernel
theorem nh_Scav_result : mn_nh M_Scav_result.1 := ⟨by decide, by decide⟩
theorem pn_Scav_result : (parseMethodDescriptor M_Scav_result.1.desc).map (fun d => d.parameters.length) = some 1 := by decide +kernel
abbrev M_Scav_run : mn_M := (⟨"LabelledVolume$Scavenger", "run", "()V"⟩, prog_6_method_3_code, 3, (Option.none : Option Jvm.ClassFile.FieldType), [])
theorem mw_Scav_run : mn_W M_Scav_run := Or.inl ⟨gw_329, rfl⟩
theorem pl_Scav_run : plainFor M_Scav_run.1 = true := by decide +kernel
theorem nh_Scav_run : mn_nh M_Scav_run.1 := ⟨by decide, by decide⟩
theorem pn_Scav_run : (parseMethodDescriptor M_Scav_run.1.desc).map (fun d => d.parameters.length) = some 0 := by decide +kernel
abbrev M_Scav_isThere : mn_M := (⟨"LabelledVolume$Scavenger", "isThere", "(I)Z"⟩, prog_6_method_4_code, 2, (Option.some Jvm.ClassFile.FieldType.boolean), [])
theorem mw_Scav_isThere : mn_W M_Scav_isThere := Or.inl ⟨gw_348, rfl⟩
theorem pl_Scav_isThere : plainFor M_Scav_isThere.1 = true := by decide +kernel
theorem nh_Scav_isThere : mn_nh M_Scav_isThere.1 := ⟨by decide, by decide⟩
theorem pn_Scav_isThere : (parseMethodDescriptor M_Scav_isThere.1.desc).map (fun d => d.parameters.length) = some 1 := by decide +kernel
abbrev M_Scav_isReached : mn_M := (⟨"LabelledVolume$Scavenger", "isReached", "(I)Z"⟩, prog_6_method_5_code, 2, (Option.some Jvm.ClassFile.FieldType.boolean), [])
theorem mw_Scav_isReached : mn_W M_Scav_isReached := Or.inl ⟨gw_418, rfl⟩
theorem pl_Scav_isReached : plainFor M_Scav_isReached.1 = true := by decide +kernel
theorem nh_Scav_isReached : mn_nh M_Scav_isReached.1 := ⟨by decide, by decide⟩
theorem pn_Scav_isReached : (parseMethodDescriptor M_Scav_isReached.1.desc).map (fun d => d.parameters.length) = some 1 := by decide +kernel
abbrev M_Scav_countFiles : mn_M := (⟨"LabelledVolume$Scavenger", "countFiles", "()I"⟩, prog_6_method_6_code, 3, (Option.some Jvm.ClassFile.FieldType.int), [])
theorem mw_Scav_countFiles : mn_W M_Scav_countFiles := Or.inl ⟨gw_486, rfl⟩
theorem pl_Scav_countFiles : plainFor M_Scav_countFiles.1 = true := by decide +kernel
theorem nh_Scav_countFiles : mn_nh M_Scav_countFiles.1 := ⟨by decide, by decide⟩
theorem pn_Scav_countFiles : (parseMethodDescriptor M_Scav_countFiles.1.desc).map (fun d => d.parameters.length) = some 0 := by decide +kernel
abbrev M_Scav_loseUnkept : mn_M := (⟨"LabelledVolume$Scavenger", "loseUnkept", "()V"⟩, prog_6_method_7_code, 4, (Option.none : Option Jvm.ClassFile.FieldType), [])
theorem mw_Scav_loseUnkept : mn_W M_Scav_loseUnkept := Or.inl ⟨gw_340, rfl⟩
theorem pl_Scav_loseUnkept : plainFor M_Scav_loseUnkept.1 = true := by decide +kernel
theorem nh_Scav_loseUnkept : mn_nh M_Scav_loseUnkept.1 := ⟨by decide, by decide⟩
theorem pn_Scav_loseUnkept : (parseMethodDescriptor M_Scav_loseUnkept.1.desc).map (fun d => d.parameters.length) = some 0 := by decide +kernel
abbrev M_Scav_keptOf : mn_M := (⟨"LabelledVolume$Scavenger", "keptOf", "(I)J"⟩, prog_6_method_8_code, 7, (Option.some Jvm.ClassFile.FieldType.long), [])
theorem mw_Scav_keptOf : mn_W M_Scav_keptOf := Or.inl ⟨gw_344, rfl⟩
theorem pl_Scav_keptOf : plainFor M_Scav_keptOf.1 = true := by decide +kernel
theorem nh_Scav_keptOf : mn_nh M_Scav_keptOf.1 := ⟨by decide, by decide⟩
theorem pn_Scav_keptOf : (parseMethodDescriptor M_Scav_keptOf.1.desc).map (fun d => d.parameters.length) = some 1 := by decide +kernel
abbrev M_Scav_lose : mn_M := (⟨"LabelledVolume$Scavenger", "lose", "(I)V"⟩, prog_6_method_9_code, 2, (Option.none : Option Jvm.ClassFile.FieldType), [])
theorem mw_Scav_lose : mn_W M_Scav_lose := Or.inl ⟨gw_361, rfl⟩
theorem pl_Scav_lose : plainFor M_Scav_lose.1 = true := by decide +kernel
theorem nh_Scav_lose : mn_nh M_Scav_lose.1 := ⟨by decide, by decide⟩
theorem pn_Scav_lose : (parseMethodDescriptor M_Scav_lose.1.desc).map (fun d => d.parameters.length) = some 1 := by decide +kernel
abbrev M_Scav_losePages : mn_M := (⟨"LabelledVolume$Scavenger", "losePages", "(I)V"⟩, prog_6_method_10_code, 3, (Option.none : Option Jvm.ClassFile.FieldType), [])
theorem mw_Scav_losePages : mn_W M_Scav_losePages := Or.inl ⟨gw_379, rfl⟩
theorem pl_Scav_losePages : plainFor M_Scav_losePages.1 = true := by decide +kernel
theorem nh_Scav_losePages : mn_nh M_Scav_losePages.1 := ⟨by decide, by decide⟩
theorem pn_Scav_losePages : (parseMethodDescriptor M_Scav_losePages.1.desc).map (fun d => d.parameters.length) = some 1 := by decide +kernel
abbrev M_Scav_makeLeaders : mn_M := (⟨"LabelledVolume$Scavenger", "makeLeaders", "()V"⟩, prog_6_method_11_code, 3, (Option.none : Option Jvm.ClassFile.FieldType), [])
theorem mw_Scav_makeLeaders : mn_W M_Scav_makeLeaders := Or.inl ⟨gw_366, rfl⟩
theorem pl_Scav_makeLeaders : plainFor M_Scav_makeLeaders.1 = true := by decide +kernel
theorem nh_Scav_makeLeaders : mn_nh M_Scav_makeLeaders.1 := ⟨by decide, by decide⟩
theorem pn_Scav_makeLeaders : (parseMethodDescriptor M_Scav_makeLeaders.1.desc).map (fun d => d.parameters.length) = some 0 := by decide +kernel
abbrev M_Scav_makeLeader : mn_M := (⟨"LabelledVolume$Scavenger", "makeLeader", "(III)Z"⟩, prog_6_method_12_code, 5, (Option.some Jvm.ClassFile.FieldType.boolean), [])
theorem mw_Scav_makeLeader : mn_W M_Scav_makeLeader := Or.inl ⟨gw_370, rfl⟩
theorem pl_Scav_makeLeader : plainFor M_Scav_makeLeader.1 = true := by decide +kernel
theorem nh_Scav_makeLeader : mn_nh M_Scav_makeLeader.1 := ⟨by decide, by decide⟩
theorem pn_Scav_makeLeader : (parseMethodDescriptor M_Scav_makeLeader.1.desc).map (fun d => d.parameters.length) = some 3 := by decide +kernel
abbrev M_Scav_provideLeader : mn_M := (⟨"LabelledVolume$Scavenger", "provideLeader", "(II)V"⟩, prog_6_method_13_code, 4, (Option.none : Option Jvm.ClassFile.FieldType), [])
theorem mw_Scav_provideLeader : mn_W M_Scav_provideLeader := Or.inl ⟨gw_383, rfl⟩
theorem pl_Scav_provideLeader : plainFor M_Scav_provideLeader.1 = true := by decide +kernel
theorem nh_Scav_provideLeader : mn_nh M_Scav_provideLeader.1 := ⟨by decide, by decide⟩
theorem pn_Scav_provideLeader : (parseMethodDescriptor M_Scav_provideLeader.1.desc).map (fun d => d.parameters.length) = some 2 := by decide +kernel
abbrev M_Scav_makeMapPage : mn_M := (⟨"LabelledVolume$Scavenger", "makeMapPage", "()V"⟩, prog_6_method_14_code, 3, (Option.none : Option Jvm.ClassFile.FieldType), [])
theorem mw_Scav_makeMapPage : mn_W M_Scav_makeMapPage := Or.inl ⟨gw_389, rfl⟩
theorem pl_Scav_makeMapPage : plainFor M_Scav_makeMapPage.1 = true := by decide +kernel
theorem nh_Scav_makeMapPage : mn_nh M_Scav_makeMapPage.1 := ⟨by decide, by decide⟩
theorem pn_Scav_makeMapPage : (parseMethodDescriptor M_Scav_makeMapPage.1.desc).map (fun d => d.parameters.length) = some 0 := by decide +kernel
abbrev M_Scav_entryPlace : mn_M := (⟨"LabelledVolume$Scavenger", "entryPlace", "(II)I"⟩, prog_6_method_15_code, 4, (Option.some Jvm.ClassFile.FieldType.int), [])
theorem mw_Scav_entryPlace : mn_W M_Scav_entryPlace := Or.inl ⟨gw_398, rfl⟩
theorem pl_Scav_entryPlace : plainFor M_Scav_entryPlace.1 = true := by decide +kernel
theorem nh_Scav_entryPlace : mn_nh M_Scav_entryPlace.1 := ⟨by decide, by decide⟩
theorem pn_Scav_entryPlace : (parseMethodDescriptor M_Scav_entryPlace.1.desc).map (fun d => d.parameters.length) = some 2 := by decide +kernel
abbrev M_Scav_serialAt : mn_M := (⟨"LabelledVolume$Scavenger", "serialAt", "(I)I"⟩, prog_6_method_16_code, 2, (Option.some Jvm.ClassFile.FieldType.int), [])
theorem mw_Scav_serialAt : mn_W M_Scav_serialAt := Or.inl ⟨gw_410, rfl⟩
theorem pl_Scav_serialAt : plainFor M_Scav_serialAt.1 = true := by decide +kernel
theorem nh_Scav_serialAt : mn_nh M_Scav_serialAt.1 := ⟨by decide, by decide⟩
theorem pn_Scav_serialAt : (parseMethodDescriptor M_Scav_serialAt.1.desc).map (fun d => d.parameters.length) = some 1 := by decide +kernel
abbrev M_Scav_nameAt : mn_M := (⟨"LabelledVolume$Scavenger", "nameAt", "(I)I"⟩, prog_6_method_17_code, 2, (Option.some Jvm.ClassFile.FieldType.int), [])
theorem mw_Scav_nameAt : mn_W M_Scav_nameAt := Or.inl ⟨gw_426, rfl⟩
theorem pl_Scav_nameAt : plainFor M_Scav_nameAt.1 = true := by decide +kernel
theorem nh_Scav_nameAt : mn_nh M_Scav_nameAt.1 := ⟨by decide, by decide⟩
theorem pn_Scav_nameAt : (parseMethodDescriptor M_Scav_nameAt.1.desc).map (fun d => d.parameters.length) = some 1 := by decide +kernel
abbrev M_Scav_walkDirectory : mn_M := (⟨"LabelledVolume$Scavenger", "walkDirectory", "(II)V"⟩, prog_6_method_18_code, 5, (Option.none : Option Jvm.ClassFile.FieldType), [])
theorem mw_Scav_walkDirectory : mn_W M_Scav_walkDirectory := Or.inl ⟨gw_394, rfl⟩
theorem pl_Scav_walkDirectory : plainFor M_Scav_walkDirectory.1 = true := by decide +kernel
theorem nh_Scav_walkDirectory : mn_nh M_Scav_walkDirectory.1 := ⟨by decide, by decide⟩
theorem pn_Scav_walkDirectory : (parseMethodDescriptor M_Scav_walkDirectory.1.desc).map (fun d => d.parameters.length) = some 2 := by decide +kernel
abbrev M_Scav_settleEntry : mn_M := (⟨"LabelledVolume$Scavenger", "settleEntry", "(II)V"⟩, prog_6_method_19_code, 5, (Option.none : Option Jvm.ClassFile.FieldType), [])
theorem mw_Scav_settleEntry : mn_W M_Scav_settleEntry := Or.inl ⟨gw_406, rfl⟩
theorem pl_Scav_settleEntry : plainFor M_Scav_settleEntry.1 = true := by decide +kernel
theorem nh_Scav_settleEntry : mn_nh M_Scav_settleEntry.1 := ⟨by decide, by decide⟩
theorem pn_Scav_settleEntry : (parseMethodDescriptor M_Scav_settleEntry.1.desc).map (fun d => d.parameters.length) = some 2 := by decide +kernel
abbrev M_Scav_nextToAdopt : mn_M := (⟨"LabelledVolume$Scavenger", "nextToAdopt", "()I"⟩, prog_6_method_20_code, 3, (Option.some Jvm.ClassFile.FieldType.int), [])
theorem mw_Scav_nextToAdopt : mn_W M_Scav_nextToAdopt := Or.inl ⟨gw_439, rfl⟩
theorem pl_Scav_nextToAdopt : plainFor M_Scav_nextToAdopt.1 = true := by decide +kernel
theorem nh_Scav_nextToAdopt : mn_nh M_Scav_nextToAdopt.1 := ⟨by decide, by decide⟩
theorem pn_Scav_nextToAdopt : (parseMethodDescriptor M_Scav_nextToAdopt.1.desc).map (fun d => d.parameters.length) = some 0 := by decide +kernel
abbrev M_Scav_isListed : mn_M := (⟨"LabelledVolume$Scavenger", "isListed", "(I)Z"⟩, prog_6_method_21_code, 5, (Option.some Jvm.ClassFile.FieldType.boolean), [])
theorem mw_Scav_isListed : mn_W M_Scav_isListed := Or.inl ⟨gw_443, rfl⟩
theorem pl_Scav_isListed : plainFor M_Scav_isListed.1 = true := by decide +kernel
theorem nh_Scav_isListed : mn_nh M_Scav_isListed.1 := ⟨by decide, by decide⟩
theorem pn_Scav_isListed : (parseMethodDescriptor M_Scav_isListed.1.desc).map (fun d => d.parameters.length) = some 1 := by decide +kernel
abbrev M_Scav_hasEntry : mn_M := (⟨"LabelledVolume$Scavenger", "hasEntry", "(III)Z"⟩, prog_6_method_22_code, 6, (Option.some Jvm.ClassFile.FieldType.boolean), [])
theorem mw_Scav_hasEntry : mn_W M_Scav_hasEntry := Or.inl ⟨gw_447, rfl⟩
theorem pl_Scav_hasEntry : plainFor M_Scav_hasEntry.1 = true := by decide +kernel
theorem nh_Scav_hasEntry : mn_nh M_Scav_hasEntry.1 := ⟨by decide, by decide⟩
theorem pn_Scav_hasEntry : (parseMethodDescriptor M_Scav_hasEntry.1.desc).map (fun d => d.parameters.length) = some 3 := by decide +kernel
abbrev M_Scav_adopt : mn_M := (⟨"LabelledVolume$Scavenger", "adopt", "(I)Z"⟩, prog_6_method_23_code, 6, (Option.some Jvm.ClassFile.FieldType.boolean), [])
theorem mw_Scav_adopt : mn_W M_Scav_adopt := Or.inl ⟨gw_451, rfl⟩
theorem pl_Scav_adopt : plainFor M_Scav_adopt.1 = true := by decide +kernel
theorem nh_Scav_adopt : mn_nh M_Scav_adopt.1 := ⟨by decide, by decide⟩
theorem pn_Scav_adopt : (parseMethodDescriptor M_Scav_adopt.1.desc).map (fun d => d.parameters.length) = some 1 := by decide +kernel
abbrev M_Scav_rootHasName : mn_M := (⟨"LabelledVolume$Scavenger", "rootHasName", "(I)Z"⟩, prog_6_method_24_code, 4, (Option.some Jvm.ClassFile.FieldType.boolean), [])
theorem mw_Scav_rootHasName : mn_W M_Scav_rootHasName := Or.inl ⟨gw_455, rfl⟩
theorem pl_Scav_rootHasName : plainFor M_Scav_rootHasName.1 = true := by decide +kernel
theorem nh_Scav_rootHasName : mn_nh M_Scav_rootHasName.1 := ⟨by decide, by decide⟩
theorem pn_Scav_rootHasName : (parseMethodDescriptor M_Scav_rootHasName.1.desc).map (fun d => d.parameters.length) = some 1 := by decide +kernel
abbrev M_Scav_placeInRoot : mn_M := (⟨"LabelledVolume$Scavenger", "placeInRoot", "()I"⟩, prog_6_method_25_code, 3, (Option.some Jvm.ClassFile.FieldType.int), [])
theorem mw_Scav_placeInRoot : mn_W M_Scav_placeInRoot := Or.inl ⟨gw_459, rfl⟩
theorem pl_Scav_placeInRoot : plainFor M_Scav_placeInRoot.1 = true := by decide +kernel
theorem nh_Scav_placeInRoot : mn_nh M_Scav_placeInRoot.1 := ⟨by decide, by decide⟩
theorem pn_Scav_placeInRoot : (parseMethodDescriptor M_Scav_placeInRoot.1.desc).map (fun d => d.parameters.length) = some 0 := by decide +kernel
abbrev M_Scav_lastKept : mn_M := (⟨"LabelledVolume$Scavenger", "lastKept", "(I)I"⟩, prog_6_method_26_code, 5, (Option.some Jvm.ClassFile.FieldType.int), [])
theorem mw_Scav_lastKept : mn_W M_Scav_lastKept := Or.inl ⟨gw_463, rfl⟩
theorem pl_Scav_lastKept : plainFor M_Scav_lastKept.1 = true := by decide +kernel
theorem nh_Scav_lastKept : mn_nh M_Scav_lastKept.1 := ⟨by decide, by decide⟩
theorem pn_Scav_lastKept : (parseMethodDescriptor M_Scav_lastKept.1.desc).map (fun d => d.parameters.length) = some 1 := by decide +kernel
abbrev M_Scav_putRight : mn_M := (⟨"LabelledVolume$Scavenger", "putRight", "()V"⟩, prog_6_method_27_code, 2, (Option.none : Option Jvm.ClassFile.FieldType), [])
theorem mw_Scav_putRight : mn_W M_Scav_putRight := Or.inl ⟨gw_477, rfl⟩
theorem pl_Scav_putRight : plainFor M_Scav_putRight.1 = true := by decide +kernel
theorem nh_Scav_putRight : mn_nh M_Scav_putRight.1 := ⟨by decide, by decide⟩
theorem pn_Scav_putRight : (parseMethodDescriptor M_Scav_putRight.1.desc).map (fun d => d.parameters.length) = some 0 := by decide +kernel
abbrev M_Scav_putLinksRight : mn_M := (⟨"LabelledVolume$Scavenger", "putLinksRight", "(I)V"⟩, prog_6_method_28_code, 5, (Option.none : Option Jvm.ClassFile.FieldType), [])
theorem mw_Scav_putLinksRight : mn_W M_Scav_putLinksRight := Or.inl ⟨gw_481, rfl⟩
theorem pl_Scav_putLinksRight : plainFor M_Scav_putLinksRight.1 = true := by decide +kernel
theorem nh_Scav_putLinksRight : mn_nh M_Scav_putLinksRight.1 := ⟨by decide, by decide⟩
theorem pn_Scav_putLinksRight : (parseMethodDescriptor M_Scav_putLinksRight.1.desc).map (fun d => d.parameters.length) = some 1 := by decide +kernel
abbrev M_Law_create : mn_M := (⟨"LabelledVolumeLaw", "create", "(LLabelledVolume;IIZ[J)I"⟩, method_3_code, 6, (Option.some Jvm.ClassFile.FieldType.int), [((0 : Nat), (12 : Nat), (15 : Nat), (13 : Nat)), ((0 : Nat), (12 : Nat), (19 : Nat), (15 : Nat)), ((0 : Nat), (12 : Nat), (23 : Nat), (17 : Nat)), ((0 : Nat), (12 : Nat), (27 : Nat), (19 : Nat))])
theorem mw_Law_create : mn_W M_Law_create := Or.inr gw_567
theorem pl_Law_create : plainFor M_Law_create.1 = true := by decide +kernel
theorem nh_Law_create : mn_nh M_Law_create.1 := ⟨by decide, by decide⟩
theorem pn_Law_create : (parseMethodDescriptor M_Law_create.1.desc).map (fun d => d.parameters.length) = some 5 := by decide +kernel
abbrev M_Law_open : mn_M := (⟨"LabelledVolumeLaw", "open", "(LLabelledVolume;II[J)I"⟩, method_4_code, 5, (Option.some Jvm.ClassFile.FieldType.int), [((0 : Nat), (10 : Nat), (13 : Nat), (13 : Nat)), ((0 : Nat), (10 : Nat), (17 : Nat), (15 : Nat)), ((0 : Nat), (10 : Nat), (21 : Nat), (17 : Nat)), ((0 : Nat), (10 : Nat), (25 : Nat), (19 : Nat))])
theorem mw_Law_open : mn_W M_Law_open := Or.inr gw_848
theorem pl_Law_open : plainFor M_Law_open.1 = true := by decide +kernel
theorem nh_Law_open : mn_nh M_Law_open.1 := ⟨by decide, by decide⟩
theorem pn_Law_open : (parseMethodDescriptor M_Law_open.1.desc).map (fun d => d.parameters.length) = some 4 := by decide +kernel
abbrev M_Law_read : mn_M := (⟨"LabelledVolumeLaw", "read", "(LLabelledVolume;II[J)I"⟩, method_5_code, 5, (Option.some Jvm.ClassFile.FieldType.int), [((0 : Nat), (10 : Nat), (13 : Nat), (13 : Nat)), ((0 : Nat), (10 : Nat), (17 : Nat), (15 : Nat)), ((0 : Nat), (10 : Nat), (21 : Nat), (19 : Nat)), ((0 : Nat), (10 : Nat), (25 : Nat), (28 : Nat))])
theorem mw_Law_read : mn_W M_Law_read := Or.inr gw_862
theorem pl_Law_read : plainFor M_Law_read.1 = true := by decide +kernel
theorem nh_Law_read : mn_nh M_Law_read.1 := ⟨by decide, by decide⟩
theorem pn_Law_read : (parseMethodDescriptor M_Law_read.1.desc).map (fun d => d.parameters.length) = some 4 := by decide +kernel
abbrev M_Law_write : mn_M := (⟨"LabelledVolumeLaw", "write", "(LLabelledVolume;III)I"⟩, method_6_code, 5, (Option.some Jvm.ClassFile.FieldType.int), [((0 : Nat), (7 : Nat), (10 : Nat), (13 : Nat)), ((0 : Nat), (7 : Nat), (14 : Nat), (15 : Nat)), ((0 : Nat), (7 : Nat), (18 : Nat), (17 : Nat)), ((0 : Nat), (7 : Nat), (22 : Nat), (19 : Nat)), ((0 : Nat), (7 : Nat), (26 : Nat), (28 : Nat))])
theorem mw_Law_write : mn_W M_Law_write := Or.inr gw_901
theorem pl_Law_write : plainFor M_Law_write.1 = true := by decide +kernel
theorem nh_Law_write : mn_nh M_Law_write.1 := ⟨by decide, by decide⟩
theorem pn_Law_write : (parseMethodDescriptor M_Law_write.1.desc).map (fun d => d.parameters.length) = some 4 := by decide +kernel
abbrev M_Law_shorten : mn_M := (⟨"LabelledVolumeLaw", "shorten", "(LLabelledVolume;II)I"⟩, method_7_code, 4, (Option.some Jvm.ClassFile.FieldType.int), [((0 : Nat), (6 : Nat), (9 : Nat), (13 : Nat)), ((0 : Nat), (6 : Nat), (12 : Nat), (15 : Nat)), ((0 : Nat), (6 : Nat), (15 : Nat), (17 : Nat)), ((0 : Nat), (6 : Nat), (18 : Nat), (19 : Nat)), ((0 : Nat), (6 : Nat), (21 : Nat), (28 : Nat))])
theorem mw_Law_shorten : mn_W M_Law_shorten := Or.inr gw_916
theorem pl_Law_shorten : plainFor M_Law_shorten.1 = true := by decide +kernel
theorem nh_Law_shorten : mn_nh M_Law_shorten.1 := ⟨by decide, by decide⟩
theorem pn_Law_shorten : (parseMethodDescriptor M_Law_shorten.1.desc).map (fun d => d.parameters.length) = some 3 := by decide +kernel
abbrev M_Law_remove : mn_M := (⟨"LabelledVolumeLaw", "remove", "(LLabelledVolume;II[J)I"⟩, method_8_code, 5, (Option.some Jvm.ClassFile.FieldType.int), [((0 : Nat), (10 : Nat), (13 : Nat), (13 : Nat)), ((0 : Nat), (10 : Nat), (17 : Nat), (15 : Nat)), ((0 : Nat), (10 : Nat), (21 : Nat), (17 : Nat)), ((0 : Nat), (10 : Nat), (25 : Nat), (19 : Nat))])
theorem mw_Law_remove : mn_W M_Law_remove := Or.inr gw_950
theorem pl_Law_remove : plainFor M_Law_remove.1 = true := by decide +kernel
theorem nh_Law_remove : mn_nh M_Law_remove.1 := ⟨by decide, by decide⟩
theorem pn_Law_remove : (parseMethodDescriptor M_Law_remove.1.desc).map (fun d => d.parameters.length) = some 4 := by decide +kernel
abbrev M_Law_length : mn_M := (⟨"LabelledVolumeLaw", "length", "(LLabelledVolume;I[J)I"⟩, method_9_code, 4, (Option.some Jvm.ClassFile.FieldType.int), [((0 : Nat), (9 : Nat), (12 : Nat), (13 : Nat)), ((0 : Nat), (9 : Nat), (15 : Nat), (15 : Nat)), ((0 : Nat), (9 : Nat), (18 : Nat), (19 : Nat))])
theorem mw_Law_length : mn_W M_Law_length := Or.inr gw_963
theorem pl_Law_length : plainFor M_Law_length.1 = true := by decide +kernel
theorem nh_Law_length : mn_nh M_Law_length.1 := ⟨by decide, by decide⟩
theorem pn_Law_length : (parseMethodDescriptor M_Law_length.1.desc).map (fun d => d.parameters.length) = some 3 := by decide +kernel
abbrev M_Law_entry : mn_M := (⟨"LabelledVolumeLaw", "entry", "(LLabelledVolume;III[J)I"⟩, method_10_code, 6, (Option.some Jvm.ClassFile.FieldType.int), [((0 : Nat), (12 : Nat), (15 : Nat), (13 : Nat)), ((0 : Nat), (12 : Nat), (19 : Nat), (15 : Nat)), ((0 : Nat), (12 : Nat), (23 : Nat), (17 : Nat)), ((0 : Nat), (12 : Nat), (27 : Nat), (19 : Nat))])
theorem mw_Law_entry : mn_W M_Law_entry := Or.inr gw_970
theorem pl_Law_entry : plainFor M_Law_entry.1 = true := by decide +kernel
theorem nh_Law_entry : mn_nh M_Law_entry.1 := ⟨by decide, by decide⟩
theorem pn_Law_entry : (parseMethodDescriptor M_Law_entry.1.desc).map (fun d => d.parameters.length) = some 5 := by decide +kernel
abbrev M_Law_charge : mn_M := (⟨"LabelledVolumeLaw", "charge", "(LLabelledVolume;I)I"⟩, method_11_code, 3, (Option.some Jvm.ClassFile.FieldType.int), [((0 : Nat), (5 : Nat), (8 : Nat), (17 : Nat)), ((0 : Nat), (5 : Nat), (11 : Nat), (13 : Nat))])
theorem mw_Law_charge : mn_W M_Law_charge := Or.inr gw_982
theorem pl_Law_charge : plainFor M_Law_charge.1 = true := by decide +kernel
theorem nh_Law_charge : mn_nh M_Law_charge.1 := ⟨by decide, by decide⟩
theorem pn_Law_charge : (parseMethodDescriptor M_Law_charge.1.desc).map (fun d => d.parameters.length) = some 2 := by decide +kernel
