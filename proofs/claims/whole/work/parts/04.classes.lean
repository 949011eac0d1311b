theorem okcBT : x_ok "BrokerTree" tBT 13 := ⟨List.forall_mem_cons.mpr ⟨xm_156, List.forall_mem_cons.mpr ⟨xm_158, List.forall_mem_cons.mpr ⟨xm_160, List.forall_mem_cons.mpr ⟨xm_162, List.forall_mem_cons.mpr ⟨xm_164, List.forall_mem_cons.mpr ⟨xm_166, List.forall_mem_cons.mpr ⟨xm_168, List.forall_mem_cons.mpr ⟨xm_170, List.forall_mem_cons.mpr ⟨xm_172, List.forall_mem_cons.mpr ⟨xm_174, List.forall_mem_cons.mpr ⟨xm_176, List.forall_mem_cons.mpr ⟨xm_178, List.forall_mem_cons.mpr ⟨xm_180, fun _ h => absurd h List.not_mem_nil⟩⟩⟩⟩⟩⟩⟩⟩⟩⟩⟩⟩⟩, ⟨tyBT, by decide +kernel⟩, by decide +kernel⟩
theorem dfcBT : ∃ ty : Nat → FieldType, (∀ j, j < 13 → parseFieldDescriptor (tBT j).2.2.1 = some (ty j)) ∧ ∀ j, j < 13 → defaultValue (ty j) = vp_V [.null, .int 0, .null, .null, .null, .null, .null, .null, .int 0, .null, .null, .null, .null] j := ⟨tyBT, by decide +kernel, by decide +kernel⟩
theorem okcCA : x_ok "BrokerTree$Catalog" tCA 2 := ⟨List.forall_mem_cons.mpr ⟨xm_73, List.forall_mem_cons.mpr ⟨xm_75, fun _ h => absurd h List.not_mem_nil⟩⟩, ⟨tyCA, by decide +kernel⟩, by decide +kernel⟩
theorem dfcCA : ∃ ty : Nat → FieldType, (∀ j, j < 2 → parseFieldDescriptor (tCA j).2.2.1 = some (ty j)) ∧ ∀ j, j < 2 → defaultValue (ty j) = vp_V [.null, .null] j := ⟨tyCA, by decide +kernel, by decide +kernel⟩
theorem okcFI : x_ok "BrokerTree$Filter" tFI 3 := ⟨List.forall_mem_cons.mpr ⟨xm_388, List.forall_mem_cons.mpr ⟨xm_390, List.forall_mem_cons.mpr ⟨xm_392, fun _ h => absurd h List.not_mem_nil⟩⟩⟩, ⟨tyFI, by decide +kernel⟩, by decide +kernel⟩
theorem dfcFI : ∃ ty : Nat → FieldType, (∀ j, j < 3 → parseFieldDescriptor (tFI j).2.2.1 = some (ty j)) ∧ ∀ j, j < 3 → defaultValue (ty j) = vp_V [.null, .null, .null] j := ⟨tyFI, by decide +kernel, by decide +kernel⟩
theorem okcLI : x_ok "BrokerTree$Link" tLI 5 := ⟨List.forall_mem_cons.mpr ⟨xm_131, List.forall_mem_cons.mpr ⟨xm_133, List.forall_mem_cons.mpr ⟨xm_135, List.forall_mem_cons.mpr ⟨xm_137, List.forall_mem_cons.mpr ⟨xm_139, fun _ h => absurd h List.not_mem_nil⟩⟩⟩⟩⟩, ⟨tyLI, by decide +kernel⟩, by decide +kernel⟩
theorem dfcLI : ∃ ty : Nat → FieldType, (∀ j, j < 5 → parseFieldDescriptor (tLI j).2.2.1 = some (ty j)) ∧ ∀ j, j < 5 → defaultValue (ty j) = vp_V [.int 0, .int 0, .null, .null, .null] j := ⟨tyLI, by decide +kernel, by decide +kernel⟩
theorem okcNO : x_ok "BrokerTree$Note" tNO 3 := ⟨List.forall_mem_cons.mpr ⟨xm_646, List.forall_mem_cons.mpr ⟨xm_648, List.forall_mem_cons.mpr ⟨xm_650, fun _ h => absurd h List.not_mem_nil⟩⟩⟩, ⟨tyNO, by decide +kernel⟩, by decide +kernel⟩
theorem dfcNO : ∃ ty : Nat → FieldType, (∀ j, j < 3 → parseFieldDescriptor (tNO j).2.2.1 = some (ty j)) ∧ ∀ j, j < 3 → defaultValue (ty j) = vp_V [.int 0, .int 0, .int 0] j := ⟨tyNO, by decide +kernel, by decide +kernel⟩
theorem okcQU : x_ok "BrokerTree$Queue" tQU 3 := ⟨List.forall_mem_cons.mpr ⟨xm_114, List.forall_mem_cons.mpr ⟨xm_116, List.forall_mem_cons.mpr ⟨xm_118, fun _ h => absurd h List.not_mem_nil⟩⟩⟩, ⟨tyQU, by decide +kernel⟩, by decide +kernel⟩
theorem dfcQU : ∃ ty : Nat → FieldType, (∀ j, j < 3 → parseFieldDescriptor (tQU j).2.2.1 = some (ty j)) ∧ ∀ j, j < 3 → defaultValue (ty j) = vp_V [.null, .int 0, .int 0] j := ⟨tyQU, by decide +kernel, by decide +kernel⟩
theorem okcRO : x_ok "BrokerTree$Row" tRO 3 := ⟨List.forall_mem_cons.mpr ⟨xm_90, List.forall_mem_cons.mpr ⟨xm_92, List.forall_mem_cons.mpr ⟨xm_94, fun _ h => absurd h List.not_mem_nil⟩⟩⟩, ⟨tyRO, by decide +kernel⟩, by decide +kernel⟩
theorem dfcRO : ∃ ty : Nat → FieldType, (∀ j, j < 3 → parseFieldDescriptor (tRO j).2.2.1 = some (ty j)) ∧ ∀ j, j < 3 → defaultValue (ty j) = vp_V [.null, .int 0, .int 0] j := ⟨tyRO, by decide +kernel, by decide +kernel⟩
theorem okcSP : x_ok "BrokerTree$Span" tSP 4 := ⟨List.forall_mem_cons.mpr ⟨xm_375, List.forall_mem_cons.mpr ⟨xm_377, List.forall_mem_cons.mpr ⟨xm_379, List.forall_mem_cons.mpr ⟨xm_381, fun _ h => absurd h List.not_mem_nil⟩⟩⟩⟩, ⟨tySP, by decide +kernel⟩, by decide +kernel⟩
theorem dfcSP : ∃ ty : Nat → FieldType, (∀ j, j < 4 → parseFieldDescriptor (tSP j).2.2.1 = some (ty j)) ∧ ∀ j, j < 4 → defaultValue (ty j) = vp_V [.int 0, .int 0, .null, .int 0] j := ⟨tySP, by decide +kernel, by decide +kernel⟩
theorem okcMO : x_ok "BrokerTreeModel" tMO 42 := ⟨List.forall_mem_cons.mpr ⟨xm_725, List.forall_mem_cons.mpr ⟨xm_727, List.forall_mem_cons.mpr ⟨xm_729, List.forall_mem_cons.mpr ⟨xm_731, List.forall_mem_cons.mpr ⟨xm_733, List.forall_mem_cons.mpr ⟨xm_735, List.forall_mem_cons.mpr ⟨xm_737, List.forall_mem_cons.mpr ⟨xm_739, List.forall_mem_cons.mpr ⟨xm_741, List.forall_mem_cons.mpr ⟨xm_743, List.forall_mem_cons.mpr ⟨xm_745, List.forall_mem_cons.mpr ⟨xm_747, List.forall_mem_cons.mpr ⟨xm_749, List.forall_mem_cons.mpr ⟨xm_751, List.forall_mem_cons.mpr ⟨xm_753, List.forall_mem_cons.mpr ⟨xm_755, List.forall_mem_cons.mpr ⟨xm_757, List.forall_mem_cons.mpr ⟨xm_759, List.forall_mem_cons.mpr ⟨xm_761, List.forall_mem_cons.mpr ⟨xm_763, List.forall_mem_cons.mpr ⟨xm_765, List.forall_mem_cons.mpr ⟨xm_767, List.forall_mem_cons.mpr ⟨xm_769, List.forall_mem_cons.mpr ⟨xm_771, List.forall_mem_cons.mpr ⟨xm_773, List.forall_mem_cons.mpr ⟨xm_775, List.forall_mem_cons.mpr ⟨xm_777, List.forall_mem_cons.mpr ⟨xm_779, List.forall_mem_cons.mpr ⟨xm_781, List.forall_mem_cons.mpr ⟨xm_783, List.forall_mem_cons.mpr ⟨xm_785, List.forall_mem_cons.mpr ⟨xm_787, List.forall_mem_cons.mpr ⟨xm_789, List.forall_mem_cons.mpr ⟨xm_791, List.forall_mem_cons.mpr ⟨xm_793, List.forall_mem_cons.mpr ⟨xm_795, List.forall_mem_cons.mpr ⟨xm_797, List.forall_mem_cons.mpr ⟨xm_799, List.forall_mem_cons.mpr ⟨xm_801, List.forall_mem_cons.mpr ⟨xm_803, List.forall_mem_cons.mpr ⟨xm_805, List.forall_mem_cons.mpr ⟨xm_807, fun _ h => absurd h List.not_mem_nil⟩⟩⟩⟩⟩⟩⟩⟩⟩⟩⟩⟩⟩⟩⟩⟩⟩⟩⟩⟩⟩⟩⟩⟩⟩⟩⟩⟩⟩⟩⟩⟩⟩⟩⟩⟩⟩⟩⟩⟩⟩⟩, ⟨tyMO, by decide +kernel⟩, by decide +kernel⟩
theorem dfcMO : ∃ ty : Nat → FieldType, (∀ j, j < 42 → parseFieldDescriptor (tMO j).2.2.1 = some (ty j)) ∧ ∀ j, j < 42 → defaultValue (ty j) = vp_V [.int 0, .null, .int 0, .null, .int 0, .null, .null, .null, .null, .null, .null, .null, .null, .null, .null, .null, .null, .null, .int 0, .null, .null, .null, .null, .null, .null, .null, .null, .null, .null, .int 0, .null, .int 0, .int 0, .int 0, .int 0, .int 0, .null, .null, .null, .null, .null, .null] j := ⟨tyMO, by decide +kernel, by decide +kernel⟩
theorem okcAL : x_ok "java/util/ArrayList" tAL 3 := ⟨List.forall_mem_cons.mpr ⟨xm_63, List.forall_mem_cons.mpr ⟨xm_65, List.forall_mem_cons.mpr ⟨xm_67, fun _ h => absurd h List.not_mem_nil⟩⟩⟩, ⟨tyAL, by decide +kernel⟩, by decide +kernel⟩
theorem dfcAL : ∃ ty : Nat → FieldType, (∀ j, j < 3 → parseFieldDescriptor (tAL j).2.2.1 = some (ty j)) ∧ ∀ j, j < 3 → defaultValue (ty j) = vp_V [.null, .int 0, .int 0] j := ⟨tyAL, by decide +kernel, by decide +kernel⟩
theorem ok_CA_init : x_mok mCA_init 0 := ⟨by decide, ⟨by decide, by decide, by decide +kernel⟩, by decide, xm_42, xm_2⟩
theorem ok_AL_init : x_mok mAL_init 0 := ⟨by decide, ⟨by decide, by decide, by decide +kernel⟩, by decide, xm_48, xm_5⟩
theorem ok_RO_init : x_mok mRO_init 0 := ⟨by decide, ⟨by decide, by decide, by decide +kernel⟩, by decide, xm_85, xm_6⟩
theorem ok_LI_init : x_mok mLI_init 2 := ⟨by decide, ⟨by decide, by decide, by decide +kernel⟩, by decide, xm_101, xm_7⟩
theorem ok_QU_init : x_mok mQU_init 0 := ⟨by decide, ⟨by decide, by decide, by decide +kernel⟩, by decide, xm_109, xm_8⟩
theorem ok_BT_linkBetween : x_mok mBT_linkBetween 2 := ⟨by decide, ⟨by decide, by decide, by decide +kernel⟩, by decide, xm_194, xm_1⟩
theorem ok_QU_size : x_mok mQU_size 0 := ⟨by decide, ⟨by decide, by decide, by decide +kernel⟩, by decide, xm_198, xm_8⟩
theorem ok_BT_firstBusyLink : x_mok mBT_firstBusyLink 0 := ⟨by decide, ⟨by decide, by decide, by decide +kernel⟩, by decide, xm_206, xm_1⟩
theorem ok_BT_takeFirst : x_mok mBT_takeFirst 1 := ⟨by decide, ⟨by decide, by decide, by decide +kernel⟩, by decide, xm_210, xm_1⟩
theorem ok_QU_removeFirst : x_mok mQU_removeFirst 0 := ⟨by decide, ⟨by decide, by decide, by decide +kernel⟩, by decide, xm_214, xm_8⟩
theorem ok_BT_handle : x_mok mBT_handle 3 := ⟨by decide, ⟨by decide, by decide, by decide +kernel⟩, by decide, xm_218, xm_1⟩
theorem ok_RO_add : x_mok mRO_add 1 := ⟨by decide, ⟨by decide, by decide, by decide +kernel⟩, by decide, xm_287, xm_6⟩
theorem ok_RO_remove : x_mok mRO_remove 1 := ⟨by decide, ⟨by decide, by decide, by decide +kernel⟩, by decide, xm_295, xm_6⟩
theorem ok_BT_settle : x_mok mBT_settle 1 := ⟨by decide, ⟨by decide, by decide, by decide +kernel⟩, by decide, xm_299, xm_1⟩
theorem ok_AL_size : x_mok mAL_size 0 := ⟨by decide, ⟨by decide, by decide, by decide +kernel⟩, by decide, xm_222, xm_5⟩
theorem ok_AL_get : x_mok mAL_get 1 := ⟨by decide, ⟨by decide, by decide, by decide +kernel⟩, by decide, xm_226, xm_5⟩
theorem ok_BT_brokerOf : x_mok mBT_brokerOf 1 := ⟨by decide, ⟨by decide, by decide, by decide +kernel⟩, by decide, xm_240, xm_1⟩
theorem ok_BT_wants : x_mok mBT_wants 2 := ⟨by decide, ⟨by decide, by decide, by decide +kernel⟩, by decide, xm_244, xm_1⟩
theorem ok_QU_add : x_mok mQU_add 1 := ⟨by decide, ⟨by decide, by decide, by decide +kernel⟩, by decide, xm_263, xm_8⟩
theorem ok_CA_anyMatches : x_mok mCA_anyMatches 2 := ⟨by decide, ⟨by decide, by decide, by decide +kernel⟩, by decide, xm_271, xm_2⟩
theorem ok_BT_put : x_mok mBT_put 3 := ⟨by decide, ⟨by decide, by decide, by decide +kernel⟩, by decide, xm_283, xm_1⟩
theorem ok_OB_checkIndex : x_mok mOB_checkIndex 2 := ⟨by decide, ⟨by decide, by decide, by decide +kernel⟩, by decide, xm_229, xm_19⟩
theorem ok_AL_elementData : x_mok mAL_elementData 1 := ⟨by decide, ⟨by decide, by decide, by decide +kernel⟩, by decide, xm_236, xm_5⟩
theorem ok_PC_checkIndex : x_mok mPC_checkIndex 3 := ⟨by decide, ⟨by decide, by decide, by decide +kernel⟩, by decide, xm_232, xm_20⟩
theorem ok_CA_matches : x_mok mCA_matches 2 := ⟨by decide, ⟨by decide, by decide, by decide +kernel⟩, by decide, xm_248, xm_2⟩
theorem ok_FI_matches : x_mok mFI_matches 1 := ⟨by decide, ⟨by decide, by decide, by decide +kernel⟩, by decide, xm_255, xm_10⟩
theorem ok_SP_has : x_mok mSP_has 1 := ⟨by decide, ⟨by decide, by decide, by decide +kernel⟩, by decide, xm_259, xm_11⟩
theorem ok_QU_grow : x_mok mQU_grow 0 := ⟨by decide, ⟨by decide, by decide, by decide +kernel⟩, by decide, xm_267, xm_8⟩
theorem ok_RO_size : x_mok mRO_size 0 := ⟨by decide, ⟨by decide, by decide, by decide +kernel⟩, by decide, xm_275, xm_6⟩
theorem ok_RO_get : x_mok mRO_get 1 := ⟨by decide, ⟨by decide, by decide, by decide +kernel⟩, by decide, xm_279, xm_6⟩
theorem ok_RO_has : x_mok mRO_has 1 := ⟨by decide, ⟨by decide, by decide, by decide +kernel⟩, by decide, xm_291, xm_6⟩
theorem ok_BT_gatherOffered : x_mok mBT_gatherOffered 1 := ⟨by decide, ⟨by decide, by decide, by decide +kernel⟩, by decide, xm_303, xm_1⟩
theorem ok_BT_gatherNeed : x_mok mBT_gatherNeed 0 := ⟨by decide, ⟨by decide, by decide, by decide +kernel⟩, by decide, xm_316, xm_1⟩
theorem ok_BT_tellNeeded : x_mok mBT_tellNeeded 1 := ⟨by decide, ⟨by decide, by decide, by decide +kernel⟩, by decide, xm_330, xm_1⟩
theorem ok_BT_dropNotNeeded : x_mok mBT_dropNotNeeded 1 := ⟨by decide, ⟨by decide, by decide, by decide +kernel⟩, by decide, xm_335, xm_1⟩
theorem ok_RO_clear : x_mok mRO_clear 0 := ⟨by decide, ⟨by decide, by decide, by decide +kernel⟩, by decide, xm_307, xm_6⟩
theorem ok_RO_addAll : x_mok mRO_addAll 1 := ⟨by decide, ⟨by decide, by decide, by decide +kernel⟩, by decide, xm_311, xm_6⟩
theorem ok_CA_hasCoverer : x_mok mCA_hasCoverer 2 := ⟨by decide, ⟨by decide, by decide, by decide +kernel⟩, by decide, xm_322, xm_2⟩
theorem ok_RO_members : x_mok mRO_members 0 := ⟨by decide, ⟨by decide, by decide, by decide +kernel⟩, by decide, xm_326, xm_6⟩
theorem ok_BT_subscribe : x_mok mBT_subscribe 1 := ⟨by decide, ⟨by decide, by decide, by decide +kernel⟩, by decide, xm_355, xm_1⟩
theorem ok_FI_parse : x_mok mFI_parse 3 := ⟨by decide, ⟨by decide, by decide, by decide +kernel⟩, by decide, xm_358, xm_10⟩
theorem ok_BT_isClient : x_mok mBT_isClient 1 := ⟨by decide, ⟨by decide, by decide, by decide +kernel⟩, by decide, xm_445, xm_1⟩
theorem ok_CA_numberOf : x_mok mCA_numberOf 1 := ⟨by decide, ⟨by decide, by decide, by decide +kernel⟩, by decide, xm_527, xm_2⟩
theorem ok_FI_init : x_mok mFI_init 0 := ⟨by decide, ⟨by decide, by decide, by decide +kernel⟩, by decide, xm_363, xm_10⟩
theorem ok_TX_find : x_mok mTX_find 4 := ⟨by decide, ⟨by decide, by decide, by decide +kernel⟩, by decide, xm_397, xm_12⟩
theorem ok_FI_addCondition : x_mok mFI_addCondition 3 := ⟨by decide, ⟨by decide, by decide, by decide +kernel⟩, by decide, xm_401, xm_10⟩
theorem ok_FI_tighten : x_mok mFI_tighten 0 := ⟨by decide, ⟨by decide, by decide, by decide +kernel⟩, by decide, xm_437, xm_10⟩
theorem ok_SP_init : x_mok mSP_init 2 := ⟨by decide, ⟨by decide, by decide, by decide +kernel⟩, by decide, xm_369, xm_11⟩
theorem ok_TX_word : x_mok mTX_word 3 := ⟨by decide, ⟨by decide, by decide, by decide +kernel⟩, by decide, xm_404, xm_12⟩
theorem ok_FI_narrowWord : x_mok mFI_narrowWord 3 := ⟨by decide, ⟨by decide, by decide, by decide +kernel⟩, by decide, xm_409, xm_10⟩
theorem ok_TX_number : x_mok mTX_number 3 := ⟨by decide, ⟨by decide, by decide, by decide +kernel⟩, by decide, xm_430, xm_12⟩
theorem ok_FI_narrowNumber : x_mok mFI_narrowNumber 3 := ⟨by decide, ⟨by decide, by decide, by decide +kernel⟩, by decide, xm_433, xm_10⟩
theorem ok_SP_keep : x_mok mSP_keep 2 := ⟨by decide, ⟨by decide, by decide, by decide +kernel⟩, by decide, xm_414, xm_11⟩
theorem ok_SP_exclude : x_mok mSP_exclude 1 := ⟨by decide, ⟨by decide, by decide, by decide +kernel⟩, by decide, xm_424, xm_11⟩
theorem ok_TX_endings : x_mok mTX_endings 1 := ⟨by decide, ⟨by decide, by decide, by decide +kernel⟩, by decide, xm_427, xm_12⟩
theorem ok_SP_tighten : x_mok mSP_tighten 0 := ⟨by decide, ⟨by decide, by decide, by decide +kernel⟩, by decide, xm_441, xm_11⟩
theorem ok_FI_includes : x_mok mFI_includes 1 := ⟨by decide, ⟨by decide, by decide, by decide +kernel⟩, by decide, xm_531, xm_10⟩
theorem ok_AL_add : x_mok mAL_add 1 := ⟨by decide, ⟨by decide, by decide, by decide +kernel⟩, by decide, xm_547, xm_5⟩
theorem ok_FI_isEmpty : x_mok mFI_isEmpty 0 := ⟨by decide, ⟨by decide, by decide, by decide +kernel⟩, by decide, xm_535, xm_10⟩
theorem ok_SP_includes : x_mok mSP_includes 1 := ⟨by decide, ⟨by decide, by decide, by decide +kernel⟩, by decide, xm_543, xm_11⟩
theorem ok_SP_isEmpty : x_mok mSP_isEmpty 0 := ⟨by decide, ⟨by decide, by decide, by decide +kernel⟩, by decide, xm_539, xm_11⟩
theorem ok_AL_add2 : x_mok mAL_add2 3 := ⟨by decide, ⟨by decide, by decide, by decide +kernel⟩, by decide, xm_551, xm_5⟩
theorem ok_AL_grow : x_mok mAL_grow 0 := ⟨by decide, ⟨by decide, by decide, by decide +kernel⟩, by decide, xm_555, xm_5⟩
theorem ok_AL_grow2 : x_mok mAL_grow2 1 := ⟨by decide, ⟨by decide, by decide, by decide +kernel⟩, by decide, xm_559, xm_5⟩
theorem ok_AS_newLength : x_mok mAS_newLength 3 := ⟨by decide, ⟨by decide, by decide, by decide +kernel⟩, by decide, xm_562, xm_21⟩
theorem ok_AR_copyOf : x_mok mAR_copyOf 2 := ⟨by decide, ⟨by decide, by decide, by decide +kernel⟩, by decide, xm_570, xm_22⟩
theorem ok_AS_hugeLength : x_mok mAS_hugeLength 2 := ⟨by decide, ⟨by decide, by decide, by decide +kernel⟩, by decide, xm_567, xm_21⟩
theorem ok_AR_copyOf2 : x_mok mAR_copyOf2 3 := ⟨by decide, ⟨by decide, by decide, by decide +kernel⟩, by decide, xm_590, xm_22⟩
theorem ok_BT_unsubscribe : x_mok mBT_unsubscribe 1 := ⟨by decide, ⟨by decide, by decide, by decide +kernel⟩, by decide, xm_607, xm_1⟩
theorem ok_BT_publish : x_mok mBT_publish 3 := ⟨by decide, ⟨by decide, by decide, by decide +kernel⟩, by decide, xm_629, xm_1⟩
theorem ok_BT_isNumberOrNone : x_mok mBT_isNumberOrNone 1 := ⟨by decide, ⟨by decide, by decide, by decide +kernel⟩, by decide, xm_633, xm_1⟩
theorem ok_NO_init : x_mok mNO_init 3 := ⟨by decide, ⟨by decide, by decide, by decide +kernel⟩, by decide, xm_638, xm_25⟩
theorem ok_BT_take : x_mok mBT_take 2 := ⟨by decide, ⟨by decide, by decide, by decide +kernel⟩, by decide, xm_660, xm_1⟩
theorem ok_BT_read : x_mok mBT_read 1 := ⟨by decide, ⟨by decide, by decide, by decide +kernel⟩, by decide, xm_667, xm_1⟩
theorem ok_BT_covers : x_mok mBT_covers 0 := ⟨by decide, ⟨by decide, by decide, by decide +kernel⟩, by decide, xm_674, xm_1⟩
theorem ok_MO_reads : x_mok mMO_reads 3 := ⟨by decide, ⟨by decide, by decide, by decide +kernel⟩, by decide, xm_825, xm_9⟩
theorem ok_MO_coversAll : x_mok mMO_coversAll 2 := ⟨by decide, ⟨by decide, by decide, by decide +kernel⟩, by decide, xm_878, xm_9⟩
theorem ok_MO_begin : x_mok mMO_begin 1 := ⟨by decide, ⟨by decide, by decide, by decide +kernel⟩, by decide, xm_829, xm_9⟩
theorem ok_MO_condition : x_mok mMO_condition 3 := ⟨by decide, ⟨by decide, by decide, by decide +kernel⟩, by decide, xm_833, xm_9⟩
theorem ok_MO_at : x_mok mMO_at 2 := ⟨by decide, ⟨by decide, by decide, by decide +kernel⟩, by decide, xm_837, xm_9⟩
theorem ok_MO_settleBounds : x_mok mMO_settleBounds 1 := ⟨by decide, ⟨by decide, by decide, by decide +kernel⟩, by decide, xm_866, xm_9⟩
theorem ok_MO_lettersAt : x_mok mMO_lettersAt 2 := ⟨by decide, ⟨by decide, by decide, by decide +kernel⟩, by decide, xm_841, xm_9⟩
theorem ok_MO_wordAt : x_mok mMO_wordAt 2 := ⟨by decide, ⟨by decide, by decide, by decide +kernel⟩, by decide, xm_848, xm_9⟩
theorem ok_MO_wordly : x_mok mMO_wordly 4 := ⟨by decide, ⟨by decide, by decide, by decide +kernel⟩, by decide, xm_852, xm_9⟩
theorem ok_MO_isDigit : x_mok mMO_isDigit 1 := ⟨by decide, ⟨by decide, by decide, by decide +kernel⟩, by decide, xm_858, xm_9⟩
theorem ok_MO_bound : x_mok mMO_bound 3 := ⟨by decide, ⟨by decide, by decide, by decide +kernel⟩, by decide, xm_862, xm_9⟩
theorem ok_MO_isLetter : x_mok mMO_isLetter 1 := ⟨by decide, ⟨by decide, by decide, by decide +kernel⟩, by decide, xm_844, xm_9⟩
theorem ok_MO_begins : x_mok mMO_begins 3 := ⟨by decide, ⟨by decide, by decide, by decide +kernel⟩, by decide, xm_855, xm_9⟩
theorem ok_MO_isOut : x_mok mMO_isOut 2 := ⟨by decide, ⟨by decide, by decide, by decide +kernel⟩, by decide, xm_870, xm_9⟩
theorem ok_MO_isWordOut : x_mok mMO_isWordOut 2 := ⟨by decide, ⟨by decide, by decide, by decide +kernel⟩, by decide, xm_874, xm_9⟩
theorem ok_MO_coversNumber : x_mok mMO_coversNumber 2 := ⟨by decide, ⟨by decide, by decide, by decide +kernel⟩, by decide, xm_882, xm_9⟩
theorem ok_MO_coversWord : x_mok mMO_coversWord 2 := ⟨by decide, ⟨by decide, by decide, by decide +kernel⟩, by decide, xm_886, xm_9⟩
theorem ok_MO_isClient : x_mok mMO_isClient 1 := ⟨by decide, ⟨by decide, by decide, by decide +kernel⟩, by decide, xm_893, xm_9⟩
theorem ok_MO_fails : x_mok mMO_fails 1 := ⟨by decide, ⟨by decide, by decide, by decide +kernel⟩, by decide, xm_897, xm_9⟩
theorem ok_MO_settle : x_mok mMO_settle 1 := ⟨by decide, ⟨by decide, by decide, by decide +kernel⟩, by decide, xm_901, xm_9⟩
theorem ok_MO_need : x_mok mMO_need 2 := ⟨by decide, ⟨by decide, by decide, by decide +kernel⟩, by decide, xm_905, xm_9⟩
theorem ok_MO_tellAll : x_mok mMO_tellAll 1 := ⟨by decide, ⟨by decide, by decide, by decide +kernel⟩, by decide, xm_921, xm_9⟩
theorem ok_MO_isHere : x_mok mMO_isHere 2 := ⟨by decide, ⟨by decide, by decide, by decide +kernel⟩, by decide, xm_909, xm_9⟩
theorem ok_MO_add : x_mok mMO_add 1 := ⟨by decide, ⟨by decide, by decide, by decide +kernel⟩, by decide, xm_913, xm_9⟩
theorem ok_MO_isOver : x_mok mMO_isOver 2 := ⟨by decide, ⟨by decide, by decide, by decide +kernel⟩, by decide, xm_917, xm_9⟩
theorem ok_MO_isTold : x_mok mMO_isTold 2 := ⟨by decide, ⟨by decide, by decide, by decide +kernel⟩, by decide, xm_925, xm_9⟩
theorem ok_MO_send : x_mok mMO_send 3 := ⟨by decide, ⟨by decide, by decide, by decide +kernel⟩, by decide, xm_933, xm_9⟩
theorem ok_MO_isNeeded : x_mok mMO_isNeeded 1 := ⟨by decide, ⟨by decide, by decide, by decide +kernel⟩, by decide, xm_937, xm_9⟩
theorem ok_MO_alike : x_mok mMO_alike 2 := ⟨by decide, ⟨by decide, by decide, by decide +kernel⟩, by decide, xm_929, xm_9⟩
theorem ok_MO_handle : x_mok mMO_handle 3 := ⟨by decide, ⟨by decide, by decide, by decide +kernel⟩, by decide, xm_949, xm_9⟩
theorem ok_MO_matches : x_mok mMO_matches 2 := ⟨by decide, ⟨by decide, by decide, by decide +kernel⟩, by decide, xm_953, xm_9⟩
theorem ok_MO_line : x_mok mMO_line 2 := ⟨by decide, ⟨by decide, by decide, by decide +kernel⟩, by decide, xm_961, xm_9⟩
theorem ok_MO_taken : x_mok mMO_taken 2 := ⟨by decide, ⟨by decide, by decide, by decide +kernel⟩, by decide, xm_968, xm_9⟩
theorem ok_MO_isBroker : x_mok mMO_isBroker 1 := ⟨by decide, ⟨by decide, by decide, by decide +kernel⟩, by decide, xm_964, xm_9⟩
theorem ok_LW_cell : x_mok mLW_cell 2 := ⟨by decide, ⟨by decide, by decide, by decide +kernel⟩, by decide, xm_346, xm_0⟩
theorem ok_BT_init : x_mok mBT_init 1 := ⟨by decide, ⟨by decide, by decide, by decide +kernel⟩, by decide, xm_30, xm_1⟩
theorem ok_MO_init : x_mok mMO_init 1 := ⟨by decide, ⟨by decide, by decide, by decide +kernel⟩, by decide, xm_681, xm_9⟩
theorem ok_BT_write : x_mok mBT_write 1 := ⟨by decide, ⟨by decide, by decide, by decide +kernel⟩, by decide, xm_186, xm_1⟩
theorem ok_MO_write : x_mok mMO_write 1 := ⟨by decide, ⟨by decide, by decide, by decide +kernel⟩, by decide, xm_817, xm_9⟩
theorem ok_MO_subscribe : x_mok mMO_subscribe 1 := ⟨by decide, ⟨by decide, by decide, by decide +kernel⟩, by decide, xm_890, xm_9⟩
theorem ok_MO_thrown : x_mok mMO_thrown 0 := ⟨by decide, ⟨by decide, by decide, by decide +kernel⟩, by decide, xm_813, xm_9⟩
theorem ok_MO_unsubscribe : x_mok mMO_unsubscribe 1 := ⟨by decide, ⟨by decide, by decide, by decide +kernel⟩, by decide, xm_941, xm_9⟩
theorem ok_MO_publish : x_mok mMO_publish 3 := ⟨by decide, ⟨by decide, by decide, by decide +kernel⟩, by decide, xm_945, xm_9⟩
theorem ok_MO_take : x_mok mMO_take 2 := ⟨by decide, ⟨by decide, by decide, by decide +kernel⟩, by decide, xm_957, xm_9⟩
theorem ok_BT_waiting : x_mok mBT_waiting 2 := ⟨by decide, ⟨by decide, by decide, by decide +kernel⟩, by decide, xm_190, xm_1⟩
theorem ok_MO_waiting : x_mok mMO_waiting 2 := ⟨by decide, ⟨by decide, by decide, by decide +kernel⟩, by decide, xm_972, xm_9⟩
theorem ok_BT_run : x_mok mBT_run 0 := ⟨by decide, ⟨by decide, by decide, by decide +kernel⟩, by decide, xm_202, xm_1⟩
theorem ok_MO_run : x_mok mMO_run 0 := ⟨by decide, ⟨by decide, by decide, by decide +kernel⟩, by decide, xm_976, xm_9⟩
theorem ok_MO_read : x_mok mMO_read 1 := ⟨by decide, ⟨by decide, by decide, by decide +kernel⟩, by decide, xm_980, xm_9⟩
theorem ok_BT_filters : x_mok mBT_filters 3 := ⟨by decide, ⟨by decide, by decide, by decide +kernel⟩, by decide, xm_339, xm_1⟩
theorem ok_MO_filters : x_mok mMO_filters 3 := ⟨by decide, ⟨by decide, by decide, by decide +kernel⟩, by decide, xm_984, xm_9⟩
theorem ok_MO_covers : x_mok mMO_covers 0 := ⟨by decide, ⟨by decide, by decide, by decide +kernel⟩, by decide, xm_821, xm_9⟩
theorem ok_BT_count : x_mok mBT_count 1 := ⟨by decide, ⟨by decide, by decide, by decide +kernel⟩, by decide, xm_343, xm_1⟩
theorem ok_MO_count : x_mok mMO_count 1 := ⟨by decide, ⟨by decide, by decide, by decide +kernel⟩, by decide, xm_988, xm_9⟩
